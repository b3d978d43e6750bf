/-! moves(): the class and the reference answer alike -/
/-- rows of the class that no later call reads before it has laid them anew -/
def scr (a : Nat) : Prop := a < 9 ∨ (51 ≤ a ∧ a < 75) ∨ a = 82 ∨ (84 ≤ a ∧ a ≤ 87) ∨ (89 ≤ a ∧ a ≤ 105) ∨ a = 108 ∨ a = 111 ∨ a = 118
theorem CR_chg {w w' : Wd} {c L : Nat} {P P' : Nat → Nat} {hs : List (Nat → Nat)} {tx : List Nat} {cd : List Int32} {kp : Nat → Option (Nat → Nat)} {cl si : List (Int32 × Int32)} {rw rw' : List Int64} (m : CR w c L P hs tx cd kp cl si rw) (h : ∀ a, a < 119 → ¬ scr a → w'.1 a = w.1 a) (h0 : isAt w' 0 c P') (hp : posC w') (hr : rowC w' rw') : CR w' c L P' hs tx cd kp cl si rw' := by
  have hat : ∀ q c' P', 9 ≤ q → q + 2 < 51 → isAt w q c' P' → isAt w' q c' P' := by
    intro q c' P' h1 h2 z
    unfold isAt
    rw [h q (by omega) (by unfold scr; omega), h (q + 1) (by omega) (by unfold scr; omega), h (q + 2) (by omega) (by unfold scr; omega)]
    exact z
  obtain ⟨m1, m2, m3, m4, m5, m6, m7, m8, m9, m10, m11⟩ := m
  refine ⟨h0, by rw [h 75 (by decide) (by unfold scr; omega)]; exact m2, hp, ?_, ?_, hr, ?_, ?_, ?_, ?_, ?_⟩
  · obtain ⟨nx, n1, n2, n3, n4, n5⟩ := m4
    refine ⟨nx, n1, n2, by rw [h 78 (by decide) (by unfold scr; omega)]; exact n3, by rw [h 78 (by decide) (by unfold scr; omega)]; exact n4, fun i Q hi => ?_⟩
    have := Nat.mod_lt (nx + 12 - hs.length + i) (show 12 > 0 by decide)
    exact hat _ c Q (by omega) (by omega) (n5 i Q hi)
  · unfold textC
    rw [h 80 (by decide) (by unfold scr; omega), h 81 (by decide) (by unfold scr; omega)]
    exact m5
  · intro i hi
    rw [h 77 (by decide) (by unfold scr; omega)]
    exact ⟨(m7 i hi).1, fun Q hQ => hat _ c Q (by omega) (by omega) ((m7 i hi).2 Q hQ)⟩
  · unfold noteC
    rw [h 112 (by decide) (by unfold scr; omega), h (112 + 1) (by decide) (by unfold scr; omega), h (112 + 2) (by decide) (by unfold scr; omega)]
    exact m8
  · unfold noteC
    rw [h 115 (by decide) (by unfold scr; omega), h (115 + 1) (by decide) (by unfold scr; omega), h (115 + 2) (by decide) (by unfold scr; omega)]
    exact m9
  · unfold ruleC
    rw [h 106 (by decide) (by unfold scr; omega), h 107 (by decide) (by unfold scr; omega)]
    exact m10
  · unfold greedC
    rw [h 109 (by decide) (by unfold scr; omega), h 110 (by decide) (by unfold scr; omega)]
    exact m11
/-- fields and rows of the reference that no later call reads before it has laid them anew -/
def scrF (k : Nat) : Prop := k ≠ 1 ∧ k ≠ 2 ∧ k ≠ 4 ∧ k ≠ 6 ∧ k ≠ 16 ∧ k ≠ 23 ∧ k ≠ 43 ∧ k ≠ 46 ∧ k ≠ 51
def scrM (a : Nat) : Prop := a = 119 ∨ a = 120 ∨ a = 123 ∨ a = 126 ∨ (128 ≤ a ∧ a ≤ 151) ∨ a = 156 ∨ a = 157 ∨ 161 ≤ a
theorem MR_chg {w w' : Wd} {c L : Nat} {P P' : Nat → Nat} {hs : List (Nat → Nat)} {tx rl : List Nat} {kp : Nat → Option (Nat → Nat)} {cl si : List (Int32 × Int32)} {rw rw' : List Int64} (m : MR w c L P hs tx rl kp cl si rw) (h : ∀ a, 119 ≤ a → ¬ scrM a → w'.1 a = w.1 a) (hf : ∀ k, ¬ scrF k → k ≠ 6 → w'.1 119 k = w.1 119 k) (hz : w'.2.2 = w.2.2) (h0 : isM w' 120 P') (ha : arrM w') (hr : rowM w' rw') : MR w' c L P' hs tx rl kp cl si rw' := by
  obtain ⟨m1, m2, m3, m4, m5, m6, m7, m8, m9, m10, m11⟩ := m
  refine ⟨by rw [hf 1 (by unfold scrF; omega) (by decide)]; exact m1, by rw [hf 2 (by unfold scrF; omega) (by decide)]; exact m2, h0, ?_, ?_, hr, ?_, ?_, ?_, ?_, ha⟩
  · unfold histM
    rw [hf 23 (by unfold scrF; omega) (by decide), h 127 (by decide) (by unfold scrM; omega)]
    exact m4
  · unfold textM
    rw [hf 4 (by unfold scrF; omega) (by decide), h 121 (by decide) (by unfold scrM; omega)]
    exact m5
  · unfold keptM
    rw [hf 51 (by unfold scrF; omega) (by decide), h 160 (by decide) (by unfold scrM; omega), h 159 (by decide) (by unfold scrM; omega), h 158 (by decide) (by unfold scrM; omega)]
    exact m7
  · unfold heardM
    rw [hf 43 (by unfold scrF; omega) (by decide), h 152 (by decide) (by unfold scrM; omega), h 153 (by decide) (by unfold scrM; omega)]
    exact m8
  · unfold sawM
    rw [hf 46 (by unfold scrF; omega) (by decide), h 154 (by decide) (by unfold scrM; omega), h 155 (by decide) (by unfold scrM; omega)]
    exact m9
  · unfold ruleM
    rw [hz, hf 16 (by unfold scrF; omega) (by decide)]
    obtain ⟨r1, r2, r3⟩ := m10
    refine ⟨r1, r2, fun i x hx => ?_⟩
    rw [h (w.2.2 1) (by rcases r1 with r | r <;> rw [r.1] <;> decide) (by rcases r1 with r | r <;> rw [r.1] <;> unfold scrM <;> omega)]
    exact r3 i x hx
theorem mvP_14 {c L m p : Nat} {P : Nat → Nat} (hB : okB c L m P) (hp : p < c) : mvP c L m p P 14 ≤ 1 ∧ tot (mvP c L m p P) = tot P := by
  obtain ⟨h2, h6, hL, hm, hP, ht⟩ := hB
  have hfr : m * c + p < 2 * c := by rcases (by omega : m = 0 ∨ m = 1) with h | h <;> subst h <;> omega
  obtain ⟨j1, j2, j3⟩ := lapS_inv (L := L) (P := P) h2 h6 hm hfr
  obtain ⟨i1, i2, i3, i4⟩ := goS_inv (L := L) h2 h6 hm 50 _ (lapS c L m (m * c + p) P).2 1 j1 (by omega)
  have hc := capCS_inv (L := L) (P := (mv1 c L m p P).2.1) h2 h6 hm (show okPl c (mv1 c L m p P).1 from i1)
  have hT := capTS_inv (L := L) (P := capCS c L m (mv1 c L m p P).1 (mv1 c L m p P).2.1) h6 hm (show okPl c (mv1 c L m p P).1 from i1)
  have e2 : tot (mv1 c L m p P).2.1 = tot P := i2.trans j2
  have e14 : (mv1 c L m p P).2.1 14 = m := by
    show (goS c L m 50 _ _ 1).2.1 14 = m
    rw [i3 14 (Nat.le_refl _), j3 14 (Nat.le_refl _), hP]
  have b14 : mvB c L m p P 14 = m := by
    unfold mvB
    rw [hT.2 14 (Nat.le_refl _), hc.2 14 (Nat.le_refl _), e14]
  refine ⟨?_, ?_⟩
  · unfold mvP endS
    rw [uN_ne (by decide)]
    split
    · rw [b14]; exact hm
    · rw [uN_self]; omega
  · unfold mvP
    rw [endS_tot]
    unfold mvB
    rw [hT.1, hc.1, e2]
theorem VW_same {w : Wd} {v q c : Nat} {P : Nat → Nat} (h : isAt w q c P) : VW w v q c P (w.1 v) = w := by
  unfold VW
  rw [pW_id h, wR_id]
theorem VW_ne {w : Wd} {v q c a : Nat} {P : Nat → Nat} {f : Nat → Int32} (h : a ≠ v) (h0 : a ≠ q) (h1 : a ≠ q + 1) (h2 : a ≠ q + 2) : (VW w v q c P f).1 a = w.1 a := by
  unfold VW
  rw [wR_ne h, pW_ne h0 h1 h2]
def gainS (c L m p : Nat) (P : Nat → Nat) : Int32 := nI (mvB c L m p P (12 + m)) - nI (P (12 + m))
def rowS (c L m p : Nat) (P : Nat → Nat) : List Int64 := [(nI (mv1 c L m p P).2.2).toInt64, (nI (mv1 c L m p P).1).toInt64, (nI (mvP c L m p P 14)).toInt64]
theorem c_moves {w : Wd} {c L p : Nat} {P : Nat → Nat} {hs : List (Nat → Nat)} {tx : List Nat} {cd : List Int32} {kp : Nat → Option (Nat → Nat)} {cl si : List (Int32 × Int32)} {rw : List Int64} (m : CR w c L P hs tx cd kp cl si rw) (hB : okB c L (P 14) P) (hp : p < c) (hne : P (P 14 * c + p) ≠ 0) :
    ∃ w1, D_X11_moves (nI p) w = some (gainS c L (P 14) p P, w1) ∧ CR w1 c L (mvP c L (P 14) p P) (pushS hs P) tx cd kp cl si (rowS c L (P 14) p P) ∧ onC w w1 := by
  obtain ⟨w1, q1, hq1, q15, q51, e1, hh1, hp1, b1⟩ := c_push m.1 m.2.2.1 m.2.2.2.1
  have hq3 := hq1.2
  have r1 : ∀ a, a ≠ q1 → a ≠ q1 + 1 → a ≠ q1 + 2 → a ≠ 78 → w1.1 a = w.1 a := fun a h1 h2 h3 h4 => b1.1 a (by simp [h1, h2, h3, h4])
  have at1 : isAt w1 0 c P := at_but b1 (by simp; omega) (by simp; omega) (by simp; omega) m.1
  have hmk := d_make (w := w1) (v := 84) (q := 0) (c := c) (L := L) (m := P 14) (f := w1.1 84) (P := P) (by decide) hB hp hne
  rw [VW_same at1] at hmk
  generalize hw2 : VW w1 84 0 c (mvP c L (P 14) p P) (mvF (w1.1 84) L (P 14) p (P (P 14 * c + p)) (mv1 c L (P 14) p P).2.2 (mv1 c L (P 14) p P).1 (staysS L (mv1 c L (P 14) p P).1) (emS (mvB c L (P 14) p P) (P 14 * c) c) (sumS (mvB c L (P 14) p P) ((1 - P 14) * c) c) (nI (mvB c L (P 14) p P (12 + P 14)) - nI (P (12 + P 14)))) = w2 at hmk
  have at2 : isAt w2 0 c (mvP c L (P 14) p P) := by rw [← hw2]; exact VW_at (by decide)
  have r2 : ∀ a, a ≠ 84 → a ≠ 0 → a ≠ 1 → a ≠ 2 → w2.1 a = w1.1 a := fun a h1 h2 h3 h4 => by rw [← hw2]; exact VW_ne h1 h2 h3 h4
  have r84 : w2.1 84 = mvF (w1.1 84) L (P 14) p (P (P 14 * c + p)) (mv1 c L (P 14) p P).2.2 (mv1 c L (P 14) p P).1 (staysS L (mv1 c L (P 14) p P).1) (emS (mvB c L (P 14) p P) (P 14 * c) c) (sumS (mvB c L (P 14) p P) ((1 - P 14) * c) c) (nI (mvB c L (P 14) p P (12 + P 14)) - nI (P (12 + P 14))) := by rw [← hw2]; exact VW_v
  have z2 : w2.2 = w.2 := by rw [← hw2]; exact b1.2
  obtain ⟨w3, e3, hr3, s3⟩ := d_tell3 w2 (nI (mv1 c L (P 14) p P).2.2).toInt64 (nI (mv1 c L (P 14) p P).1).toInt64 (nI (mvP c L (P 14) p P 14)).toInt64
  have r3 : ∀ a, a ≠ 82 → w3.1 a = w2.1 a := fun a h => s3.1 a (by simp [h])
  have hsub : ∀ x, D_X11_refusal (nI p) w = some (x, w) → x = 0 := by
    intro x hx
    rw [d_refusal m.1 hB.2.1 hB.2.2.2.1 hB.2.2.2.2.2 hp] at hx
    cases hx
    unfold rfS
    rw [if_neg hne]
  refine ⟨w3, ?_, ?_, ?_, ?_, ?_⟩
  · unfold D_X11_moves
    rw [d_refusal m.1 hB.2.1 hB.2.2.2.1 hB.2.2.2.2.2 hp, bc_eq]
    unfold rfS
    rw [if_neg hne, if_pos (by decide), e1, bv_eq, r1 75 (by omega) (by omega) (by omega) (by decide), m.2.1, hmk, bc_eq, r84, at2.1, oP_3]
    show bv (D_X3_tell__ (nI (mv1 c L (P 14) p P).2.2).toInt64 (nI (mv1 c L (P 14) p P).1).toInt64 (nI (mvP c L (P 14) p P 14)).toInt64 w2) _ = _
    rw [e3, bv_eq, r3 84 (by decide), r84]
    rfl
  · have mm : CR w1 c L P (pushS hs P) tx cd kp cl si rw := by
      obtain ⟨m1, m2, m3, m4, m5, m6, m7, m8, m9, m10, m11⟩ := m
      have f : ∀ a, 75 ≤ a → a ≠ 78 → w1.1 a = w.1 a := fun a h1 h2 => r1 a (by omega) (by omega) (by omega) h2
      refine ⟨at1, by rw [f 75 (by decide) (by decide)]; exact m2, hp1, hh1, ?_, ?_, ?_, ?_, ?_, ?_, ?_⟩
      · unfold textC
        rw [f 80 (by decide) (by decide), f 81 (by decide) (by decide)]
        exact m5
      · unfold rowC
        rw [f 82 (by decide) (by decide), b1.2]
        exact m6
      · intro i hi
        rw [f 77 (by decide) (by decide)]
        refine ⟨(m7 i hi).1, fun Q hQ => ?_⟩
        exact at_but b1 (by simp; omega) (by simp; omega) (by simp; omega) ((m7 i hi).2 Q hQ)
      · unfold noteC
        rw [f 112 (by decide) (by decide), f (112 + 1) (by decide) (by decide), f (112 + 2) (by decide) (by decide)]
        exact m8
      · unfold noteC
        rw [f 115 (by decide) (by decide), f (115 + 1) (by decide) (by decide), f (115 + 2) (by decide) (by decide)]
        exact m9
      · unfold ruleC
        rw [f 106 (by decide) (by decide), f 107 (by decide) (by decide)]
        exact m10
      · unfold greedC
        rw [f 109 (by decide) (by decide), f 110 (by decide) (by decide)]
        exact m11
    refine CR_chg mm (fun a ha hs => ?_) ?_ ?_ hr3
    · have n0 : a ≠ 0 ∧ a ≠ 1 ∧ a ≠ 2 ∧ a ≠ 82 ∧ a ≠ 84 := by
        unfold scr at hs
        omega
      rw [r3 a n0.2.2.2.1, r2 a n0.2.2.2.2 n0.1 n0.2.1 n0.2.2.1]
    · unfold isAt
      rw [r3 0 (by decide), r3 (0 + 1) (by decide), r3 (0 + 2) (by decide)]
      exact at2
    · intro q hq
      have hq75 := hq.1
      have hq3' := hq.2
      have g : ∀ c' P', isAt w2 q c' P' → isAt w3 q c' P' := by
        intro c' P' z
        unfold isAt
        rw [r3 q (by omega), r3 (q + 1) (by omega), r3 (q + 2) (by omega)]
        exact z
      by_cases hq0 : q = 0
      · subst hq0
        exact ⟨c, _, g _ _ at2⟩
      · obtain ⟨c2, P2, z⟩ := hp1 q hq
        refine ⟨c2, P2, g _ _ ?_⟩
        unfold isAt
        rw [r2 q (by omega) (by omega) (by omega) (by omega), r2 (q + 1) (by omega) (by omega) (by omega) (by omega), r2 (q + 2) (by omega) (by omega) (by omega) (by omega)]
        exact z
  · intro a ha
    rw [r3 a (by omega), r2 a (by omega) (by omega) (by omega) (by omega), r1 a (by omega) (by omega) (by omega) (by omega)]
  · intro a ha
    rw [s3.2.1 a (by simp [ha]), z2]
  · rw [s3.2.2, z2]
