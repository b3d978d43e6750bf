/-! how good a MOVE is, of the reference; its choice -/
def ruM (w : Wd) (V : (Nat → Int32) → Int32) : Prop := ∃ rl cd, ruleM w rl ∧ okRl rl cd V
theorem mvB_lo {c L m p : Nat} {P : Nat → Nat} {k : Nat} (h1 : k ≠ 14) (h2 : k ≠ 15) : mvP c L m p P k = mvB c L m p P k := by
  unfold mvP endS
  rw [uN_ne h2]
  split
  · rfl
  · rw [uN_ne h1]
theorem mvP_turn {c L m p : Nat} {P : Nat → Nat} (hm : m ≤ 1) (h14 : mvB c L m p P 14 = m) : (mvP c L m p P 14 = m ↔ staysS L (mv1 c L m p P).1 = 1) ∧ (mvP c L m p P 14 ≠ m → staysS L (mv1 c L m p P).1 = 0) := by
  have e : mvP c L m p P 14 = if staysS L (mv1 c L m p P).1 = 1 then m else 1 - m := by
    unfold mvP endS staysS
    rw [uN_ne (by decide)]
    by_cases h : (mv1 c L m p P).1 = 50 ∧ L.testBit 4 = true
    · rw [if_pos h, if_pos h, if_pos rfl, h14]
    · rw [if_neg h, if_neg h, if_neg (by decide), uN_self]
  rw [e]
  rcases stays_01 L (mv1 c L m p P).1 with h | h <;> rw [h]
  · rw [if_neg (by decide)]
    omega
  · rw [if_pos rfl]
    simp
theorem mvB_14 {c L m p : Nat} {P : Nat → Nat} (hB : okB c L m P) (hp : p < c) : mvB c L m p P 14 = m := by
  obtain ⟨h2, h6, hL, hm, hP, ht⟩ := hB
  have hfr : m * c + p < 2 * c := by rcases (by omega : m = 0 ∨ m = 1) with h | h <;> subst h <;> omega
  obtain ⟨j1, j2, j3⟩ := lapS_inv (L := L) (P := P) h2 h6 hm hfr
  obtain ⟨i1, i2, i3, i4⟩ := goS_inv (L := L) h2 h6 hm 50 _ (lapS c L m (m * c + p) P).2 1 j1 (by omega)
  have hc := capCS_inv (L := L) (P := (mv1 c L m p P).2.1) h2 h6 hm (show okPl c (mv1 c L m p P).1 from i1)
  have hT := capTS_inv (L := L) (P := capCS c L m (mv1 c L m p P).1 (mv1 c L m p P).2.1) h6 hm (show okPl c (mv1 c L m p P).1 from i1)
  unfold mvB
  rw [hT.2 14 (Nat.le_refl _), hc.2 14 (Nat.le_refl _)]
  show (goS c L m 50 _ _ 1).2.1 14 = m
  rw [i3 14 (Nat.le_refl _), j3 14 (Nat.le_refl _), hP]
theorem okB_mv {c L p : Nat} {P : Nat → Nat} (hB : okB c L (P 14) P) (hp : p < c) : okB c L (mvP c L (P 14) p P 14) (mvP c L (P 14) p P) := by
  obtain ⟨a, b⟩ := mvP_14 hB hp
  exact ⟨hB.1, hB.2.1, hB.2.2.1, a, rfl, by rw [b]; exact hB.2.2.2.2.2⟩
section WO
variable {w : Wd} {a c L p : Nat} {P : Nat → Nat} {V : (Nat → Int32) → Int32}
theorem m_empty {k : Int32 → Wd → Option (Int32 × Wd)} {Q : Nat → Nat} {m x8 : Nat} {x10 : Int32} {q7 : Nat} (hc : w.1 119 1 = nI c) (hQ : w.1 130 = eP Q) (h6 : c ≤ 6) (hm : m ≤ 1) (hb : ∀ i, i < 12 → Q i < 2 ^ 31) : ∀ (n i fu : Nat), n + i = c → n < fu → L_X12_worthOf_66 q7 (nI x8) (nI m) x10 k fu (nI (emS Q (m * c) i)) (nI i) w = k (nI (emS Q (m * c) c)) w := by
  intro n
  induction n with
  | zero =>
    intro i fu hi hf
    obtain ⟨fu, rfl⟩ : ∃ n', fu = n' + 1 := ⟨fu - 1, by omega⟩
    have : i = c := by omega
    subst this
    unfold L_X12_worthOf_66
    rw [hc, if_pos (nI_le (Nat.le_refl _) (by omega))]
  | succ n ih =>
    intro i fu hi hf
    obtain ⟨fu, rfl⟩ : ∃ n', fu = n' + 1 := ⟨fu - 1, by omega⟩
    have hmc := mc_le h6 hm
    unfold L_X12_worthOf_66
    rw [hc, if_neg (nI_ge (by omega) (by omega)), pk_mul, nI_add, show c * m + i = m * c + i by rw [Nat.mul_comm], if_pos (ib_nI (by omega) (by omega)), bd_eq, nI_clamp (by omega), hQ, eP_at]
    have e : emS Q (m * c) (i + 1) = emS Q (m * c) i + (if Q (m * c + i) = 0 then 1 else 0) := rfl
    by_cases h : Q (m * c + i) = 0
    · rw [if_pos h] at e
      rw [if_pos (by rw [h]; rfl)]
      unfold J_X12_worthOf_j99_1
      rw [bd_eq, bd_eq, nI_1, nI_1, ← e]
      exact ih (i + 1) fu (by omega) (by omega)
    · have e' : emS Q (m * c) (i + 1) = emS Q (m * c) i := by
        rw [e, if_neg h]
        rfl
      rw [if_neg (by rw [nI_z (hb _ (by omega))]; exact h)]
      unfold J_X12_worthOf_j99_1
      rw [bd_eq, bd_eq, nI_1, nI_0', nI_add, Nat.add_zero, ← e']
      exact ih (i + 1) fu (by omega) (by omega)
theorem m_worthOf (ha : a ≠ 119) (ha0 : a ≠ 130) (ha1 : a ≠ 126) (hla : ln a = 16) (h : isM w a P) (h130 : ∃ Q, isM w 130 Q) (hc : w.1 119 1 = nI c) (hL : w.1 119 2 = nI L) (hB : okB c L (P 14) P) (hp : p < c) (hr : ruM w V) : ∃ w', D_X12_worthOf a (nI p) w = some (V (askS c L P p), w') ∧ sameR [126, 130] [9, 10, 11, 12, 17, 19, 20, 21] [] [0] w w' ∧ ∃ Q, isM w' 130 Q := by
  obtain ⟨Q0, h130⟩ := h130
  obtain ⟨rl, cd, hrl, hok⟩ := hr
  have hl130 : ln 130 = 16 := rfl
  have h6 := hB.2.1
  have hm := hB.2.2.2.1
  have h14 := mvB_14 hB hp
  obtain ⟨ht1, ht2⟩ := mvP_turn (c := c) (L := L) (p := p) hm h14
  obtain ⟨k14, ktot⟩ := mvP_14 hB hp
  -- the position is laid aside
  have hlay := d_lay ha0 hla hl130 h h130
  generalize hw1 : wR w 130 (eP P) = w1 at hlay
  have r1 : ∀ b, b ≠ 130 → w1.1 b = w.1 b := fun b hb => by rw [← hw1]; exact wR_ne hb
  have s1 : sameR [126, 130] [9, 10, 11, 12, 17, 19, 20, 21] [] [0] w w1 := ⟨fun b hb _ => r1 b (fun z => hb (by rw [z]; decide)), fun k _ => by rw [r1 119 (by decide)], fun _ _ => by rw [← hw1]; rfl, fun _ _ => by rw [← hw1]; rfl⟩
  have p1 : w1.1 130 = eP P := by rw [← hw1]; exact wR_self _ _ _
  -- the MOVE
  have hgo := d_goMove (w := w1) (a := 130) (c := c) (L := L) (m := P 14) (g := w1.1 119) (p := p) (P := P) (by decide) hl130 (by rw [r1 119 (by decide)]; exact hc) (by rw [r1 119 (by decide)]; exact hL) hB hp
  rw [← p1, W2_id (by decide)] at hgo
  generalize hw2 : W2 w1 130 (eP (mvP c L (P 14) p P)) (upd (upd (upd (w1.1 119) 21 (nI (mv1 c L (P 14) p P).1)) 20 (nI (mv1 c L (P 14) p P).2.2)) 19 (nI (mvB c L (P 14) p P (12 + P 14)) - nI (P (12 + P 14)))) = w2 at hgo
  have p2 : w2.1 130 = eP (mvP c L (P 14) p P) := by rw [← hw2]; exact W2_a (by decide)
  have g2 : w2.1 119 = upd (upd (upd (w1.1 119) 21 (nI (mv1 c L (P 14) p P).1)) 20 (nI (mv1 c L (P 14) p P).2.2)) 19 (nI (mvB c L (P 14) p P (12 + P 14)) - nI (P (12 + P 14))) := by rw [← hw2]; exact W2_M
  have r2 : ∀ b, b ≠ 130 → b ≠ 119 → w2.1 b = w1.1 b := fun b h1 h2 => by rw [← hw2]; exact W2_ne h1 h2
  have z2 : w2.2 = w1.2 := by rw [← hw2]; rfl
  have s2 : sameR [126, 130] [9, 10, 11, 12, 17, 19, 20, 21] [] [0] w w2 := by
    refine sameR_tr s1 ⟨fun b hb h9 => r2 b (fun z => hb (by rw [z]; decide)) h9, fun k hk => ?_, fun _ _ => by rw [z2], fun _ _ => by rw [z2]⟩
    simp only [List.mem_cons, List.not_mem_nil, or_false, not_or] at hk
    rw [g2, upd_ne (by omega), upd_ne (by omega), upd_ne (by omega)]
  have q2 : isM w2 130 (mvP c L (P 14) p P) := ⟨p2, mvP_hi hB hp h.2⟩
  have f19 : w2.1 119 19 = gainS c L (P 14) p P := by rw [g2, upd_self]; rfl
  have f20 : w2.1 119 20 = nI (mv1 c L (P 14) p P).2.2 := by rw [g2, upd_ne (by decide), upd_self]
  have f1 : w2.1 119 1 = nI c := (s2.2.1 1 (by decide)).trans hc
  have f16 : w2.1 119 16 = nI rl.length := (s2.2.1 16 (by decide)).trans hrl.2.1
  have hrlM : ruleM w2 rl := ruleM_same hrl s2 (by decide) (by decide) (by decide) (by decide) (by decide)
  have main : ∀ st : Int32, st = askS c L P p 1 → ∃ w', J_X12_worthOf_j39_3 a (nI p) (nI (P 14)) st w2 = some (V (askS c L P p), w') ∧ sameR [126, 130] [9, 10, 11, 12, 17, 19, 20, 21] [] [0] w w' ∧ ∃ Q, isM w' 130 Q := by
    intro st hst
    unfold J_X12_worthOf_j39_3
    rw [f16]
    rcases hok with ⟨hby, ⟨e1, e2, e3⟩ | ⟨hne, hokc, hblk⟩⟩
    · subst e1
      rw [if_pos (by decide), f19, hst, e3]
      exact ⟨w2, rfl, s2, _, q2⟩
    · have hlen := okc_40 hokc
      have hpos : 0 < rl.length := by cases rl with | nil => exact absurd rfl hne | cons x y => simp
      have hmc := mc_le h6 hm
      have hmc1 : (1 - P 14) * c + c ≤ 12 := mc_le h6 (by omega)
      have hfr : P 14 * c + p < 12 := by omega
      have hlo : ∀ k, k < 14 → mvP c L (P 14) p P k = mvB c L (P 14) p P k := fun k hk => mvB_lo (by omega) (by omega)
      have hbd : ∀ i, i < 12 → mvP c L (P 14) p P i < 2 ^ 31 := tot_lt (by rw [ktot]; exact hB.2.2.2.2.2)
      have hem := m_empty (w := w2) (k := J_X12_worthOf_x108_2 st (nI p) (nI (P 14)) a) (q7 := a) (x8 := p) (x10 := st) f1 p2 h6 hm hbd c 0 FU (by omega) (by unfold FU; omega)
      rw [show emS (mvP c L (P 14) p P) (P 14 * c) 0 = 0 from rfl, nI_0] at hem
      rw [if_neg (by rw [nI_z (by omega)]; omega), hem, emS_congr c (fun i hi => hlo (P 14 * c + i) (by omega))]
      unfold J_X12_worthOf_x108_2
      have z : ∀ k : Nat, k < 7 → (nI k).toNatClampNeg = k := fun k hk => nI_clamp (by omega)
      have ib7 : ib 0 7 = true ∧ ib 1 7 = true ∧ ib 2 7 = true ∧ ib 3 7 = true ∧ ib 4 7 = true ∧ ib 5 7 = true ∧ ib 6 7 = true := by decide
      have c7 : (0 : Int32).toNatClampNeg = 0 ∧ (1 : Int32).toNatClampNeg = 1 ∧ (2 : Int32).toNatClampNeg = 2 ∧ (3 : Int32).toNatClampNeg = 3 ∧ (4 : Int32).toNatClampNeg = 4 ∧ (5 : Int32).toNatClampNeg = 5 ∧ (6 : Int32).toNatClampNeg = 6 := by decide
      rw [if_pos ib7.1, bd_eq, if_pos ib7.2.1, bd_eq, if_pos ib7.2.2.1, bd_eq, wI_r (show (119 : Nat) ≠ 126 by decide), wI_r (show (119 : Nat) ≠ 126 by decide), wI_r (show (119 : Nat) ≠ 126 by decide), f1, pk_mul, nI_add, show c * P 14 + p = P 14 * c + p by rw [Nat.mul_comm], hla, if_pos (ib_nI (by omega) (by omega)), if_pos ib7.2.2.2.1, bd_eq, if_pos ib7.2.2.2.2.1, bd_eq, if_pos ib7.2.2.2.2.2.1, bd_eq]
      rw [wI_r ha1, wI_r ha1, wI_r ha1, nI_clamp (by omega), c7.1, c7.2.1, c7.2.2.1, c7.2.2.2.1, c7.2.2.2.2.1, c7.2.2.2.2.2.1]
      rw [s2.1 a (by simp [ha0, ha1]) ha, h.1, eP_at]
      simp only [wI_r (show (119 : Nat) ≠ 126 by decide)]
      rw [f19, f20, f1]
      generalize hw3 : wI (wI (wI (wI (wI (wI w2 126 0 (gainS c L (P 14) p P)) 126 1 st) 126 2 (nI p)) 126 3 (nI (P (P 14 * c + p)))) 126 4 (nI (mv1 c L (P 14) p P).2.2)) 126 5 (nI (emS (mvB c L (P 14) p P) (P 14 * c) c)) = w3
      have r3 : ∀ b, b ≠ 126 → w3.1 b = w2.1 b := fun b hb => by rw [← hw3, wI_r hb, wI_r hb, wI_r hb, wI_r hb, wI_r hb, wI_r hb]
      have z3 : w3.2 = w2.2 := by rw [← hw3]; rfl
      have hsd := d_seeds (w := w3) (a := 130) (b := (1 - P 14) * c) (n0 := c) (S := mvP c L (P 14) p P) (fun i hi => by rw [r3 130 (by decide), p2]; rfl) (by rw [hl130]; omega) (by rw [hl130]; decide) (by omega)
      have esub : (1 : Int32) - nI (P 14) = nI (1 - P 14) := by
        rcases (by omega : P 14 = 0 ∨ P 14 = 1) with e | e <;> rw [e] <;> rfl
      rw [esub, pk_mul, show c * (1 - P 14) = (1 - P 14) * c by rw [Nat.mul_comm], hsd, bc_eq, if_pos ib7.2.2.2.2.2.2, bd_eq, sumS_congr c (fun i hi => hlo ((1 - P 14) * c + i) (by omega)), c7.2.2.2.2.2.2]
      generalize hw4 : wI w3 126 6 (nI (sumS (mvB c L (P 14) p P) ((1 - P 14) * c) c)) = w4
      have r4 : ∀ b, b ≠ 126 → w4.1 b = w2.1 b := fun b hb => by rw [← hw4, wI_r hb, r3 b hb]
      have z4 : w4.2 = w2.2 := by rw [← hw4]; exact z3
      have hp12 : w2.2.2 1 = 124 ∨ w2.2.2 1 = 125 := by
        rcases hrlM.1 with z | z
        · exact Or.inl z.1
        · exact Or.inr z.1
      have hbq : bq (w2.2.2 1) = true ∧ ln (w2.2.2 1) = 40 ∧ w2.2.2 1 ≠ 119 ∧ w2.2.2 1 ≠ 126 ∧ w2.2.2 1 ≠ 130 := by rcases hp12 with e | e <;> rw [e] <;> decide
      rw [z4, if_pos hbq.1, r4 119 (by decide), f16]
      unfold D_X12_begin
      rw [bd_eq, bd_eq, bd_eq, bd_eq, bd_eq, bv_eq, if_pos (show b01 1 = true by decide), bd_eq]
      generalize hw5 : wI (wI (wI (wI (wI (wZ w4 0 (w2.2.2 1)) 119 9 (nI rl.length)) 119 10 40) 119 11 0) 119 12 (-1)) 119 17 1 = w5
      have s5 : sameR [] [9, 10, 11, 12, 17] [] [0] w4 w5 := by
        rw [← hw5]
        exact sameR_tr (sameR_tr (sameR_tr (sameR_tr (sameR_tr (sameR_z (by simp)) (sameR_f (by simp))) (sameR_f (by simp))) (sameR_f (by simp))) (sameR_f (by simp))) (sameR_f (by simp))
      have f9 : w5.1 119 9 = nI rl.length := by
        rw [← hw5, wI_at_ne (by decide), wI_at_ne (by decide), wI_at_ne (by decide), wI_at_ne (by decide), wI_at]
      have f10 : w5.1 119 10 = nI 40 := by
        rw [← hw5, wI_at_ne (by decide), wI_at_ne (by decide), wI_at_ne (by decide), wI_at]
        rfl
      have f11 : w5.1 119 11 = nI 0 := by
        rw [← hw5, wI_at_ne (by decide), wI_at_ne (by decide), wI_at]
        rfl
      have f12 : w5.1 119 12 = -1 := by
        rw [← hw5, wI_at_ne (by decide), wI_at]
      have f17 : w5.1 119 17 = 1 := by
        rw [← hw5, wI_at]
      have z0 : w5.2.2 0 = w2.2.2 1 := by
        rw [← hw5]
        rfl
      have H : rdH w5 rl := by
        unfold rdH
        rw [z0]
        refine ⟨hbq.1, by omega, by omega, hbq.2.2.1, f9, f10, by omega, fun i x hi hx => ⟨hby x (List.mem_of_getElem? hx), ?_⟩⟩
        rw [s5.1 _ (by simp) hbq.2.2.1, r4 _ hbq.2.2.2.1]
        exact hrlM.2.2 i x hx
      obtain ⟨v, j, e, e1, b, e', e2, e3⟩ := m_held H hne
      rw [RW_id f11 f12] at e1
      rcases e3 with ⟨q, -, -, hfl⟩ | ⟨-, -, he, cd', V', o1, o2, o3⟩
      · exfalso
        obtain ⟨dg, cm, W, O, hcl, -⟩ := hokc
        exact fl_not hcl hfl
      · have ecd := okc_fun hokc o1
        subst ecd
        have row : ∀ k, k < 7 → w5.1 126 k = askS c L P p k := by
          intro k hk
          rw [s5.1 126 (by simp) (by decide), ← hw4]
          rcases (by omega : k = 0 ∨ k = 1 ∨ k = 2 ∨ k = 3 ∨ k = 4 ∨ k = 5 ∨ k = 6) with x | x | x | x | x | x | x <;> subst x
          · rw [wI_at_ne (by decide), ← hw3, wI_at_ne (by decide), wI_at_ne (by decide), wI_at_ne (by decide), wI_at_ne (by decide), wI_at_ne (by decide), wI_at]; rfl
          · rw [wI_at_ne (by decide), ← hw3, wI_at_ne (by decide), wI_at_ne (by decide), wI_at_ne (by decide), wI_at_ne (by decide), wI_at]; exact hst
          · rw [wI_at_ne (by decide), ← hw3, wI_at_ne (by decide), wI_at_ne (by decide), wI_at_ne (by decide), wI_at]; rfl
          · rw [wI_at_ne (by decide), ← hw3, wI_at_ne (by decide), wI_at_ne (by decide), wI_at]; rfl
          · rw [wI_at_ne (by decide), ← hw3, wI_at_ne (by decide), wI_at]; rfl
          · rw [wI_at_ne (by decide), ← hw3, wI_at]; rfl
          · rw [wI_at]; rfl
        have ef : fAsk w5 = askS c L P p := by
          funext k
          unfold fAsk
          rw [f17, if_neg (by decide)]
          by_cases hk : k < 7
          · rw [Nat.min_eq_left (by omega)]
            exact row k hk
          · rw [Nat.min_eq_right (by omega), row 6 (by decide)]
            exact (ask_rz.2 k (by omega)).symm
        have ev : v = V (askS c L P p) := by
          rw [o3, ef]
          exact blk_uniq o2 hblk (okc_len hby hokc) ask_rz.1 ask_rz.2
        rw [e1, bc_eq, if_pos (show b01 0 = true by decide), bd_eq, ev]
        have s6 : sameR [126, 130] [9, 10, 11, 12, 17, 19, 20, 21] [] [0] w2 (wI (RW w5 j e) 119 17 0) := by
          refine sameR_tr (w1 := w4) ⟨fun b hb _ => r4 b (fun x => hb (by rw [x]; decide)), fun k _ => by rw [r4 119 (by decide)], fun _ _ => by rw [z4], fun _ _ => by rw [z4]⟩ (sameR_tr (sameR_sub s5 (by decide) (by decide) (by decide) (by decide)) (sameR_tr (sameR_sub sameR_RW (by decide) (by decide) (by decide) (by decide)) (sameR_f (by decide))))
        refine ⟨_, rfl, sameR_tr s2 s6, mvP c L (P 14) p P, ?_, q2.2⟩
        rw [wI_r (by decide), RW_r (by decide), s5.1 130 (by simp) (by decide), r4 130 (by decide), p2]
  unfold D_X12_worthOf
  rw [hla, if_pos (by decide), bd_eq, show (14 : Int32).toNatClampNeg = 14 from by decide, h.1, eP_at, hlay, bv_eq, hgo, bv_eq, if_pos (by decide), bd_eq, p2, eP_at]
  have e1 : nI (mvP c L (P 14) p P 14) = nI (P 14) ↔ mvP c L (P 14) p P 14 = P 14 := nI_eq (by omega) (by omega)
  have ea : askS c L P p 1 = nI (staysS L (mv1 c L (P 14) p P).1) := rfl
  by_cases ht : mvP c L (P 14) p P 14 = P 14
  · rw [if_pos (e1.mpr ht)]
    exact main 1 (by rw [ea, ht1.mp ht]; rfl)
  · rw [if_neg (fun x => ht (e1.mp x))]
    exact main 0 (by rw [ea, ht2 ht]; rfl)
end WO
