/-! moves() of the reference -/
theorem ln_120 : ln 120 = 16 := rfl
theorem tellMove_ok {w : Wd} {a : Nat} {P : Nat → Nat} {l q : Nat} (hla : ln a = 16) (hP : w.1 a = eP P) (ha : a ≠ 119) (hl : w.1 119 20 = nI l) (hq : w.1 119 21 = nI q) :
    ∃ w1, D_X12_tellMove a w = some (w.1 119 19, w1) ∧ rowM w1 [(nI l).toInt64, (nI q).toInt64, (nI (P 14)).toInt64] ∧ sameM [] [122] [6] w w1 := by
  obtain ⟨w2, e2, r2, s2⟩ := d_tellM (row0M w) (by decide) (nI l).toInt64
  obtain ⟨w3, e3, r3, s3⟩ := d_tellM r2 (by simp) (nI q).toInt64
  obtain ⟨w4, e4, r4, s4⟩ := d_tellM r3 (by simp) (nI (P 14)).toInt64
  have s1 : sameM [] [122] [6] w (wI w 119 6 0) := sameM_wI (by simp)
  have s12 := sameM_tr s1 s2
  have s13 := sameM_tr s12 s3
  have s14 := sameM_tr s13 s4
  refine ⟨w4, ?_, r4, s14⟩
  have a3 : w3.1 a = eP P := by rw [s13.1.1 a (by simp [ha]), hP]
  unfold D_X12_tellMove
  rw [bd_eq, s1.2 20 (by simp), hl, e2, bv_eq, s12.2 21 (by simp), hq, e3, bv_eq, hla, if_pos (by decide), a3, show (14 : Int32).toNatClampNeg = 14 from by decide, eP_at, e4, bv_eq, s14.2 19 (by simp)]
theorem uN_hi {P : Nat → Nat} {k v : Nat} (hk : k < 16) (h : ∀ j, 16 ≤ j → P j = 0) : ∀ j, 16 ≤ j → uN P k v j = 0 := fun j hj => by rw [uN_ne (by omega)]; exact h j hj
theorem mvP_hi {c L m p : Nat} {P : Nat → Nat} (hB : okB c L m P) (hp : p < c) (h : ∀ j, 16 ≤ j → P j = 0) : ∀ j, 16 ≤ j → mvP c L m p P j = 0 := by
  obtain ⟨h2, h6, hL, hm, hP, ht⟩ := hB
  have hfr : m * c + p < 2 * c := by rcases (by omega : m = 0 ∨ m = 1) with h | h <;> subst h <;> omega
  obtain ⟨j1, j2, j3⟩ := lapS_inv (L := L) (P := P) h2 h6 hm hfr
  obtain ⟨i1, i2, i3, i4⟩ := goS_inv (L := L) h2 h6 hm 50 _ (lapS c L m (m * c + p) P).2 1 j1 (by omega)
  have hc := capCS_inv (L := L) (P := (mv1 c L m p P).2.1) h2 h6 hm (show okPl c (mv1 c L m p P).1 from i1)
  have hT := capTS_inv (L := L) (P := capCS c L m (mv1 c L m p P).1 (mv1 c L m p P).2.1) h6 hm (show okPl c (mv1 c L m p P).1 from i1)
  intro j hj
  have b : mvB c L m p P j = 0 := by
    unfold mvB
    rw [hT.2 j (by omega), hc.2 j (by omega)]
    show (goS c L m 50 _ _ 1).2.1 j = 0
    rw [i3 j (by omega), j3 j (by omega), h j hj]
  unfold mvP endS
  rw [uN_ne (by omega)]
  split
  · exact b
  · rw [uN_ne (by omega)]
    exact b
theorem m_moves {w : Wd} {c L p : Nat} {P : Nat → Nat} {hs : List (Nat → Nat)} {tx rl : List Nat} {kp : Nat → Option (Nat → Nat)} {cl si : List (Int32 × Int32)} {rw : List Int64} (m : MR w c L P hs tx rl kp cl si rw) (hB : okB c L (P 14) P) (hh : hs.length ≤ 12) (hp : p < c) (hne : P (P 14 * c + p) ≠ 0) :
    ∃ w1, D_X12_moves (nI p) w = some (gainS c L (P 14) p P, w1) ∧ MR w1 c L (mvP c L (P 14) p P) (pushS hs P) tx rl kp cl si (rowS c L (P 14) p P) ∧ onM w w1 := by
  obtain ⟨m1, m2, m3, m4, m5, m6, m7, m8, m9, m10, m11⟩ := id m
  -- thrown is laid to 0
  generalize hw1 : wI w 119 7 0 = w1
  have f1 : ∀ k, k ≠ 7 → w1.1 119 k = w.1 119 k := fun k hk => by rw [← hw1]; exact wI_at_ne hk
  have r1 : ∀ a, a ≠ 119 → w1.1 a = w.1 a := fun a ha => by rw [← hw1, wI_wR, wR_ne ha]
  have z1 : w1.2 = w.2 := by rw [← hw1]; rfl
  have hh1 : histM w1 hs := by
    unfold histM
    rw [f1 23 (by decide), r1 127 (by decide)]
    exact m4
  have p1 : w1.1 120 = eP P := by rw [r1 120 (by decide)]; exact m3.1
  obtain ⟨w2, e2, hh2, r2, f2, z2⟩ := m_remember (w := w1) (a := 120) (by decide) (by decide) ln_120 p1 hh1 hh
  have p2 : w2.1 120 = eP P := by rw [r2 120 (by decide) (by decide), p1]
  have c2 : w2.1 119 1 = nI c := by rw [f2 1 (by decide), f1 1 (by decide)]; exact m1
  have l2 : w2.1 119 2 = nI L := by rw [f2 2 (by decide), f1 2 (by decide)]; exact m2
  have hgo := d_goMove (w := w2) (a := 120) (c := c) (L := L) (m := P 14) (g := w2.1 119) (p := p) (P := P) (by decide) ln_120 c2 l2 hB hp
  rw [← p2, W2_id (by decide)] at hgo
  generalize hw3 : W2 w2 120 (eP (mvP c L (P 14) p P)) (upd (upd (upd (w2.1 119) 21 (nI (mv1 c L (P 14) p P).1)) 20 (nI (mv1 c L (P 14) p P).2.2)) 19 (nI (mvB c L (P 14) p P (12 + P 14)) - nI (P (12 + P 14)))) = w3 at hgo
  have p3 : w3.1 120 = eP (mvP c L (P 14) p P) := by rw [← hw3]; exact W2_a (by decide)
  have g3 : w3.1 119 = upd (upd (upd (w2.1 119) 21 (nI (mv1 c L (P 14) p P).1)) 20 (nI (mv1 c L (P 14) p P).2.2)) 19 (nI (mvB c L (P 14) p P (12 + P 14)) - nI (P (12 + P 14))) := by rw [← hw3]; exact W2_M
  have r3 : ∀ a, a ≠ 120 → a ≠ 119 → w3.1 a = w2.1 a := fun a h1 h2 => by rw [← hw3]; exact W2_ne h1 h2
  have z3 : w3.2 = w2.2 := by rw [← hw3]; rfl
  obtain ⟨w4, e4, hr4, s4⟩ := tellMove_ok (w := w3) (a := 120) (P := mvP c L (P 14) p P) (l := (mv1 c L (P 14) p P).2.2) (q := (mv1 c L (P 14) p P).1) ln_120 p3 (by decide) (by rw [g3, upd_ne (by decide), upd_self]) (by rw [g3, upd_ne (by decide), upd_ne (by decide), upd_self])
  have r4 : ∀ a, a ≠ 119 → w4.1 a = w3.1 a := fun a ha => s4.1.1 a (by simp [ha])
  refine ⟨w4, ?_, ?_, ?_⟩
  · unfold D_X12_moves
    rw [bd_eq, hw1, d_refuses ln_120 p1 (by rw [f1 1 (by decide)]; exact m1) hB.1 hB.2.1 hB.2.2.2.1 hB.2.2.2.2.2 hp, bc_eq]
    unfold rfS
    rw [if_neg hne, if_pos (by decide), e2, bv_eq, hgo, bv_eq, e4, bc_eq, g3, upd_self]
    rfl
  · have mm : MR w2 c L P (pushS hs P) tx rl kp cl si rw := by
      refine ⟨c2, l2, ⟨p2, m3.2⟩, hh2, ?_, ?_, ?_, ?_, ?_, ?_, ?_⟩
      · unfold textM
        rw [f2 4 (by decide), f1 4 (by decide), r2 121 (by decide) (by decide), r1 121 (by decide)]
        exact m5
      · unfold rowM
        rw [f2 6 (by decide), f1 6 (by decide), z2, z1]
        exact m6
      · unfold keptM
        rw [f2 51 (by decide), f1 51 (by decide), r2 160 (by decide) (by decide), r1 160 (by decide), r2 159 (by decide) (by decide), r1 159 (by decide), r2 158 (by decide) (by decide), r1 158 (by decide)]
        exact m7
      · unfold heardM
        rw [f2 43 (by decide), f1 43 (by decide), r2 152 (by decide) (by decide), r1 152 (by decide), r2 153 (by decide) (by decide), r1 153 (by decide)]
        exact m8
      · unfold sawM
        rw [f2 46 (by decide), f1 46 (by decide), r2 154 (by decide) (by decide), r1 154 (by decide), r2 155 (by decide) (by decide), r1 155 (by decide)]
        exact m9
      · unfold ruleM
        rw [z2, z1, f2 16 (by decide), f1 16 (by decide)]
        obtain ⟨q1, q2, q3⟩ := m10
        refine ⟨q1, q2, fun i x hx => ?_⟩
        rw [r2 (w.2.2 1) (by rcases q1 with r | r <;> rw [r.1] <;> decide) (by rcases q1 with r | r <;> rw [r.1] <;> decide), r1 (w.2.2 1) (by rcases q1 with r | r <;> rw [r.1] <;> decide)]
        exact q3 i x hx
      · intro a ha
        obtain ⟨Q, hQ⟩ := m11 a ha
        refine ⟨Q, ?_⟩
        unfold isM
        rw [r2 a (by omega) (by omega), r1 a (by omega)]
        exact hQ
    refine MR_chg mm (fun a ha hs => ?_) (fun k hk h6 => ?_) ?_ ⟨?_, mvP_hi hB hp m3.2⟩ ?_ hr4
    · have n0 : a ≠ 119 ∧ a ≠ 120 := by
        unfold scrM at hs
        omega
      rw [r4 a n0.1, r3 a n0.2 n0.1]
    · have n0 : k ≠ 19 ∧ k ≠ 20 ∧ k ≠ 21 := by
        unfold scrF at hk
        omega
      rw [s4.2 k (by simp [h6]), g3, upd_ne n0.1, upd_ne n0.2.1, upd_ne n0.2.2]
    · rw [s4.1.2.2, z3]
    · rw [r4 120 (by decide), p3]
    · intro a ha
      obtain ⟨Q, hQ⟩ := mm.2.2.2.2.2.2.2.2.2.2 a ha
      refine ⟨Q, ?_⟩
      unfold isM
      rw [r4 a (by omega), r3 a (by omega) (by omega)]
      exact hQ
  · refine ⟨fun a ha => ?_, fun a ha => ?_, ?_⟩
    · rw [r4 a (by omega), r3 a (by omega) (by omega), r2 a (by omega) (by omega), r1 a (by omega)]
    · rw [s4.1.2.1 a (by simp [ha]), z3, z2, z1]
    · rw [s4.2 51 (by simp), g3, upd_ne (by decide), upd_ne (by decide), upd_ne (by decide), f2 51 (by decide), f1 51 (by decide)]
