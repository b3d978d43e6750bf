/-! best, most, threat, risks, starves -/
section QB
theorem rowC_q {w w' : Wd} {rw : List Int64} (h : qC EC0 [] w w') (r : rowC w rw) : rowC w' rw := rowC_same r h.1 (by decide) (by decide)
theorem over_iff {c : Nat} {P : Nat → Nat} : sumS P (P 14 * c) c = 0 ↔ overS c P = true := by
  unfold overS
  rw [decide_eq_true_eq]
theorem q_choose {w w1 : Wd} (h : but [51, 52, 53, 85, 86, 108] w w1) (hat : ∃ c P, isAt w1 51 c P) : qC EC0 [] w w1 := qC_at (r := 51) (by decide) h (by decide) (by decide) hat
theorem q_chooseG {w w1 : Wd} (h : but [51, 52, 53, 85, 86, 111] w w1) (hat : ∃ c P, isAt w1 51 c P) : qC EC0 [] w w1 := qC_at (r := 51) (by decide) h (by decide) (by decide) hat
theorem q_best : Quest D_X11_best D_X12_best := by
  intro w c L P hs tx rl cd V kp cl si rw B m ok okr
  have hB := okB_of ok
  have h6 := hB.2.1
  have hj : JR w 106 V := JR_of m.2.2.2.2.2.2.2.2.2.1 okr
  obtain ⟨w1, e1, e2, b1, at1⟩ := c_choose (q := 0) (o := 106) (by decide) (by decide) (by decide) hB m.1 (m.2.2.1 51 (by decide)) hj
  have q1 := q_choose b1 at1
  cases ho : overS c P with
  | true =>
    obtain ⟨k1, k2⟩ := CR_q0 m q1
    refine ⟨-2, rw, okS_rw ok, ⟨w1, ?_, k1, k2⟩, fun u n => ⟨_, ?_, (MR_7 n).1, (MR_7 n).2⟩⟩
    · unfold D_X11_best
      rw [m.2.1, e1, bc_eq, pick_no hB ho, if_pos rfl]
    · unfold D_X12_best
      rw [bd_eq, d_isOverM ln_120 (MR_7 n).1.2.2.1.1 (MR_7 n).1.1 h6 hB.2.2.2.1 hB.2.2.2.2.2, bc_eq, if_pos (over_iff.mpr ho), if_neg (by decide)]
  | false =>
    obtain ⟨p1, p2, p3⟩ := pick_ok (V := V) hB ho
    obtain ⟨w2, t1, t2, t3⟩ := d_tell1 w1 (V (askS c L P (pickS c L P V))).toInt64
    obtain ⟨k1, k2⟩ := CR_q m (qC_tr (qC_up q1) (qC_hi t3 (by decide) (by decide) (by decide))) t2
    refine ⟨nI (pickS c L P V), [(V (askS c L P (pickS c L P V))).toInt64], by simp, ⟨w2, ?_, k1, k2⟩, fun u n => ?_⟩
    · unfold D_X11_best
      rw [m.2.1, e1, bc_eq, e2, p3, if_neg (nI_nm (by omega)), t1, bv_eq]
    · obtain ⟨n', on'⟩ := MR_7 n
      have hr : ruM (wI u 119 7 0) V := ⟨rl, cd, n'.2.2.2.2.2.2.2.2.2.1, okr⟩
      obtain ⟨u1, g1, s1, i1⟩ := m_bestOf (a := 120) (V := V) (by decide) (by decide) (by decide) ln_120 hB n'.2.2.1 (arrM_of n' 130 (by decide)) n'.1 n'.2.1 hr
      have s1' : sameR [126, 130] [6, 9, 10, 11, 12, 17, 19, 20, 21] [] [0] (wI u 119 7 0) (wI u1 119 6 0) := sameR_tr (sameR_sub s1 (fun _ z => z) (by decide) (fun _ z => z) (fun _ z => z)) (sameR_f (by decide))
      obtain ⟨u2, g2, s2, i2⟩ := m_worthOf (a := 120) (p := pickS c L P V) (V := V) (by decide) (by decide) (by decide) ln_120 (isM_same n'.2.2.1 s1' (by decide) (by decide)) (by obtain ⟨Q, hQ⟩ := i1; exact ⟨Q, isM_same (E := []) (F := [6]) (T := []) (Z := []) hQ (sameR_f (by simp)) (by simp) (by decide)⟩) ((s1'.2.1 1 (by decide)).trans n'.1) ((s1'.2.1 2 (by decide)).trans n'.2.1) hB p1 (ruM_same hr s1' (by decide) (by decide) (by decide) (by decide) (by decide))
      have r2 : rowM u2 [] := rowM_same (row0M u1) s2 (by decide) (by decide)
      obtain ⟨u3, g3, r3, s3⟩ := d_tellM r2 (by decide) (V (askS c L P (pickS c L P V))).toInt64
      have s12 := sameR_tr s1' (sameR_sub s2 (fun _ z => z) (by decide) (fun _ z => z) (fun _ z => z))
      have p12 : qM FM1 [122] (wI u 119 7 0) u2 := qM_sub (qM_at (r := 130) s12 (by decide) (by decide) (by decide) i2) (by decide) (by simp)
      obtain ⟨k3, k4⟩ := MR_q n' (qM_tr p12 (qM_tell s3)) r3
      refine ⟨u3, ?_, k3, onM_tr on' k4⟩
      unfold D_X12_best
      have hz : ¬ sumS P (P 14 * c) c = 0 := by rw [over_iff, ho]; decide
      rw [bd_eq, d_isOverM ln_120 n'.2.2.1.1 n'.1 h6 hB.2.2.2.1 hB.2.2.2.2.2, bc_eq, if_neg hz, if_pos rfl, g1, bc_eq, bd_eq, p3, g2, bc_eq, g3, bv_eq]
theorem greed_V {c L : Nat} {P : Nat → Nat} : (fun p => (fun f : Nat → Int32 => f 0) (askS c L P p)) = fun p => gainS c L (P 14) p P := rfl
theorem q_most : Quest D_X11_most D_X12_most := by
  intro w c L P hs tx rl cd V kp cl si rw B m ok okr
  have hB := okB_of ok
  have h6 := hB.2.1
  have hj : JR w 109 (fun f => f 0) := JR_greed m.2.2.2.2.2.2.2.2.2.2
  obtain ⟨w1, e1, e2, b1, at1⟩ := c_choose (q := 0) (o := 109) (by decide) (by decide) (by decide) hB m.1 (m.2.2.1 51 (by decide)) hj
  have q1 := q_chooseG b1 at1
  rw [greed_V] at e1 e2
  have e1' : D_X4_choose 0 109 (nI L) w = some ((chG c L P c).1, w1) := e1
  have e2' : w1.1 85 2 = (chG c L P c).2 := e2
  rcases chG_ok hB (Nat.le_refl c) with ⟨ho, ec⟩ | ⟨ho, p, g, hp, hne, ec, hg⟩
  · obtain ⟨k1, k2⟩ := CR_q0 m q1
    refine ⟨-2, rw, okS_rw ok, ⟨w1, ?_, k1, k2⟩, fun u n => ⟨_, ?_, (MR_7 n).1, (MR_7 n).2⟩⟩
    · unfold D_X11_most
      rw [m.2.1, e1', bc_eq, ec, if_pos rfl]
    · unfold D_X12_most
      rw [bd_eq, d_isOverM ln_120 (MR_7 n).1.2.2.1.1 (MR_7 n).1.1 h6 hB.2.2.2.1 hB.2.2.2.2.2, bc_eq, if_pos ho, if_neg (by decide)]
  · obtain ⟨w2, t1, t2, t3⟩ := d_tell1 w1 (nI p).toInt64
    obtain ⟨k1, k2⟩ := CR_q m (qC_tr (qC_up q1) (qC_hi t3 (by decide) (by decide) (by decide))) t2
    refine ⟨nI g, [(nI p).toInt64], by simp, ⟨w2, ?_, k1, k2⟩, fun u n => ?_⟩
    · unfold D_X11_most
      rw [m.2.1, e1', bc_eq, ec, if_neg (nI_nm (by omega)), t1, bv_eq, t3.1 85 (by decide), e2', ec]
    · obtain ⟨n', on'⟩ := MR_7 n
      obtain ⟨u1, g1, g28, p1⟩ := m_mostOf (a := 120) ln_120 (by decide) (by decide) hB n'.2.2.1 (arrM_of n') n'.1 n'.2.1
      obtain ⟨u2, g2, r2, s2⟩ := d_tellM (row0M u1) (by decide) (nI p).toInt64
      obtain ⟨k3, k4⟩ := MR_q n' (qM_tr (qM_up p1) (qM_tr (qM_f (k := 6) (v := 0) (by decide)) (qM_tell s2))) r2
      refine ⟨u2, ?_, k3, onM_tr on' k4⟩
      unfold D_X12_most
      rw [bd_eq, d_isOverM ln_120 n'.2.2.1.1 n'.1 h6 hB.2.2.2.1 hB.2.2.2.2.2, bc_eq, if_neg ho, if_pos rfl, g1, bc_eq, bd_eq, wI_at_ne (by decide), g28, ec, g2, bv_eq]
theorem okB_turn {c L : Nat} {P : Nat → Nat} (hB : okB c L (P 14) P) : okB c L (uN P 14 (1 - P 14) 14) (uN P 14 (1 - P 14)) := by
  obtain ⟨h1, h2, h3, h4, -, h6⟩ := hB
  exact ⟨h1, h2, h3, by rw [uN_self]; omega, rfl, by rw [tot_uN' (by omega)]; exact h6⟩
theorem one_sub {n : Nat} (h : n ≤ 1) : (1 : Int32) - nI n = nI (1 - n) := by
  rcases (by omega : n = 0 ∨ n = 1) with e | e <;> rw [e] <;> rfl
theorem d_pass {w : Wd} {q c : Nat} {P : Nat → Nat} (h : isAt w q c P) (hm : P 14 ≤ 1) : ∃ w1, D_X5_pass q w = some w1 ∧ isAt w1 q c (uN P 14 (1 - P 14)) ∧ but [q] w w1 := by
  refine ⟨wI w q 3 (nI (1 - P 14)), ?_, ?_, but_wI (by simp)⟩
  · unfold D_X5_pass
    rw [isAt_m h, bd_eq, one_sub hm]
  · refine ⟨?_, ?_, ?_⟩
    · rw [wI_wR, wR_self, h.1, upd_oP3]
    · rw [wI_r (by omega), h.2.1]
      exact (sP_hi (by omega)).symm
    · rw [wI_r (by omega), h.2.2]
      exact (tP_lo (Or.inr (by omega))).symm
theorem q_threat : Quest D_X11_threat D_X12_threat := by
  intro w c L P hs tx rl cd V kp cl si rw B m ok okr
  have hB := okB_of ok
  have h6 := hB.2.1
  have hB' := okB_turn hB
  have hm := hB.2.2.2.1
  obtain ⟨c6, P6, z6⟩ := m.2.2.1 6 (by decide)
  have b0 : but [6, 7, 8] w (pW w 6 c P) := pW_but
  obtain ⟨w1, e1, a1, b1⟩ := d_pass (pW_at w 6 c P) hm
  have b01' : but [6, 7, 8] w w1 := but_tr b0 (but_sub b1 (by decide))
  have hj : JR w1 109 (fun f => f 0) := JR_but (JR_greed m.2.2.2.2.2.2.2.2.2.2) b01' (by decide) (by decide)
  obtain ⟨w2, e2, e3, b2, at2⟩ := c_choose (q := 6) (o := 109) (by decide) (by decide) (by decide) hB' a1 (by obtain ⟨c', P', z⟩ := m.2.2.1 51 (by decide); exact ⟨c', P', at_but b01' (by decide) (by decide) (by decide) z⟩) hj
  rw [greed_V] at e2 e3
  have e2' : D_X4_choose 6 109 (nI L) w1 = some ((chG c L (uN P 14 (1 - P 14)) c).1, w2) := e2
  have e3' : w2.1 85 2 = (chG c L (uN P 14 (1 - P 14)) c).2 := e3
  have q2 : qC EC0 [] w w2 := qC_tr (qC_at (r := 6) (by decide) b01' (by decide) (by decide) ⟨_, _, a1⟩) (q_chooseG b2 at2)
  obtain ⟨w3, t1, t2, t3⟩ := d_clear w2
  have q3 : qC EC1 [83] w w3 := qC_tr (qC_up q2) (qC_hi t3 (by decide) (by decide) (by decide))
  have f85 : w3.1 85 2 = (chG c L (uN P 14 (1 - P 14)) c).2 := by rw [t3.1 85 (by decide)]; exact e3'
  have l75 : w1.1 75 18 = nI L := by rw [b01'.1 75 (by decide)]; exact m.2.1
  have hM : ∀ u, MR u c L P hs tx rl kp cl si rw → ∃ u3 u4, D_X12_lay 120 129 0 (wI u 119 7 0) = some u3 ∧ u3.1 120 = eP P ∧ D_X12_mostOf 129 (wI u3 129 14 (nI (1 - P 14))) = some ((chG c L (uN P 14 (1 - P 14)) c).2, u4) ∧ u4.1 119 28 = (chG c L (uN P 14 (1 - P 14)) c).1 ∧ qM FM0 [] (wI u 119 7 0) u4 := by
    intro u n
    obtain ⟨n', on'⟩ := MR_7 n
    obtain ⟨u1, g1, i1, s1⟩ := m_lay (a := 120) (b := 129) ln_120 (by decide) (by decide) n'.2.2.1 (arrM_of n')
    have s2 : sameR [129] [] [] [] (wI u 119 7 0) (wI u1 129 14 (nI (1 - P 14))) := sameR_tr s1 (sameR_r (by simp) (by decide))
    have i2 : isM (wI u1 129 14 (nI (1 - P 14))) 129 (uN P 14 (1 - P 14)) := by
      refine ⟨?_, uN_hi (by decide) i1.2⟩
      rw [wI_wR, wR_self, i1.1, upd_eP]
    have p2 : qM FM0 [] (wI u 119 7 0) (wI u1 129 14 (nI (1 - P 14))) := qM_sub (qM_at (r := 129) s2 (by decide) (by decide) (by simp) ⟨_, i2⟩) (by simp) (by simp)
    obtain ⟨u2, g2, g28, p3⟩ := m_mostOf (a := 129) rfl (by decide) (by decide) hB' i2 (p2.2 (arrM_of n')) ((s2.2.1 1 (by simp)).trans n'.1) ((s2.2.1 2 (by simp)).trans n'.2.1)
    exact ⟨u1, u2, g1, by rw [s1.1 120 (by decide) (by decide)]; exact n'.2.2.1.1, g2, g28, qM_tr p2 p3⟩
  have hd : D_X11_threat w = if (chG c L (uN P 14 (1 - P 14)) c).1 = -1 then some ((chG c L (uN P 14 (1 - P 14)) c).2, w3) else bv (D_X3_add (chG c L (uN P 14 (1 - P 14)) c).1.toInt64 w3) fun w6 => some (w6.1 85 2, w6) := by
    unfold D_X11_threat
    rw [d_take (by decide) (by decide) (by decide) z6 m.1, bv_eq, e1, bv_eq, l75, e2', bc_eq, t1, bv_eq, f85]
  have h14 : (14 : Int32).toNatClampNeg = 14 := by decide
  rcases chG_ok hB' (Nat.le_refl c) with ⟨-, ec⟩ | ⟨-, p, g, hp, -, ec, hg⟩
  · obtain ⟨k1, k2⟩ := CR_q m q3 t2
    refine ⟨0, [], by simp, ⟨w3, ?_, k1, k2⟩, fun u n => ?_⟩
    · rw [hd, ec, if_pos rfl]
    · obtain ⟨u1, u2, g1, gP, g2, g28, p3⟩ := hM u n
      obtain ⟨n', on'⟩ := MR_7 n
      obtain ⟨k3, k4⟩ := MR_q n' (qM_tr (qM_up p3) (qM_f (k := 6) (v := 0) (by decide))) (row0M u2)
      refine ⟨_, ?_, k3, onM_tr on' k4⟩
      unfold D_X12_threat
      rw [bd_eq, g1, bv_eq, if_pos (by decide), if_pos (by decide), gP, h14, eP_at, one_sub hm, bd_eq, g2, bc_eq, bd_eq, wI_at_ne (by decide), g28, ec, if_pos rfl]
  · obtain ⟨w4, t4, t5, t6⟩ := d_add t2 (by decide) (nI p).toInt64
    obtain ⟨k1, k2⟩ := CR_q m (qC_tr q3 (qC_hi t6 (by decide) (by decide) (by decide))) t5
    refine ⟨nI g, [(nI p).toInt64], by simp, ⟨w4, ?_, k1, k2⟩, fun u n => ?_⟩
    · rw [hd, ec, if_neg (nI_nm (by omega)), t4, bv_eq, t6.1 85 (by decide), f85, ec]
    · obtain ⟨u1, u2, g1, gP, g2, g28, p3⟩ := hM u n
      obtain ⟨n', on'⟩ := MR_7 n
      obtain ⟨u3, g3, r3, s3⟩ := d_tellM (row0M u2) (by decide) (nI p).toInt64
      obtain ⟨k3, k4⟩ := MR_q n' (qM_tr (qM_up p3) (qM_tr (qM_f (k := 6) (v := 0) (by decide)) (qM_tell s3))) r3
      refine ⟨u3, ?_, k3, onM_tr on' k4⟩
      unfold D_X12_threat
      rw [bd_eq, g1, bv_eq, if_pos (by decide), if_pos (by decide), gP, h14, eP_at, one_sub hm, bd_eq, g2, bc_eq, bd_eq, wI_at_ne (by decide), g28, ec, if_neg (nI_nm (by omega)), g3, bv_eq]
theorem q_risks (x : Int32) : Quest (D_X11_risks x) (D_X12_risks x) := by
  intro w c L P hs tx rl cd V kp cl si rw B m ok okr
  have hB := okB_of ok
  have h6 := hB.2.1
  rcases arg_cases c (by omega) x with hx | ⟨p, hp, rfl⟩
  · refine ⟨-1, rw, okS_rw ok, ⟨w, ?_, m, onC_rf w⟩, fun u n => ⟨_, ?_, (MR_7 n).1, (MR_7 n).2⟩⟩
    · unfold D_X11_risks
      rw [d_refusal_no (isAt_c m.1) hx, bc_eq, if_neg (by decide)]
    · unfold D_X12_risks
      rw [bd_eq, d_refuses_no (MR_7 n).1.1 hB.1 h6 hx, bc_eq, if_neg (by decide)]
  · by_cases hne : P (P 14 * c + p) = 0
    · refine ⟨-2, rw, okS_rw ok, ⟨w, ?_, m, onC_rf w⟩, fun u n => ⟨_, ?_, (MR_7 n).1, (MR_7 n).2⟩⟩
      · unfold D_X11_risks
        rw [d_refusal m.1 h6 hB.2.2.2.1 hB.2.2.2.2.2 hp, bc_eq]
        unfold rfS
        rw [if_pos hne, if_neg (by decide)]
      · unfold D_X12_risks
        rw [bd_eq, d_refuses ln_120 (MR_7 n).1.2.2.1.1 (MR_7 n).1.1 hB.1 h6 hB.2.2.2.1 hB.2.2.2.2.2 hp, bc_eq]
        unfold rfS
        rw [if_pos hne, if_neg (by decide)]
    · obtain ⟨w1, e1, q1, a1, -, e7, -, -, -⟩ := (c_tryMove m.1 m.2.2.1 hB hp).2 hne
      have h14 : (14 : Int32).toNatClampNeg = 14 := by decide
      obtain ⟨ht1, ht2⟩ := mvP_turn (c := c) (L := L) (p := p) hB.2.2.2.1 (mvB_14 hB hp)
      have hB' := okB_mv hB hp
      have hM : ∀ u, MR u c L P hs tx rl kp cl si rw → ∃ u3 u4, D_X12_lay 120 129 0 (wI u 119 7 0) = some u3 ∧ D_X12_goMove 129 (nI p) u3 = some u4 ∧ u4.1 120 = eP P ∧ isM u4 129 (mvP c L (P 14) p P) ∧ qM FM0 [] (wI u 119 7 0) u4 := by
        intro u n
        obtain ⟨n', on'⟩ := MR_7 n
        obtain ⟨u1, u2, g1, g2, i2, s2, p2, -, -, -⟩ := m_try (a := 120) (b := 129) (p := p) ln_120 (by decide) (by decide) n'.2.2.1 (arrM_of n') n'.1 n'.2.1 hB hp
        exact ⟨u1, u2, g1, g2, by rw [s2.1 120 (by decide) (by decide)]; exact n'.2.2.1.1, i2, p2⟩
      have hd : D_X11_risks (nI p) w = if nI (staysS L (mv1 c L (P 14) p P).1) = 0 then (bc (D_X4_choose 6 109 (nI L) w1) fun x6 w5 => some (w5.1 85 2, w5)) else some (0, w1) := by
        unfold D_X11_risks
        rw [d_refusal m.1 h6 hB.2.2.2.1 hB.2.2.2.2.2 hp, bc_eq]
        unfold rfS
        rw [if_neg hne, if_pos (by decide), m.2.1, e1, bc_eq, e7, q1.1.1 75 (by decide), m.2.1]
      have hg : ∀ u, MR u c L P hs tx rl kp cl si rw → ∃ u4, qM FM0 [] (wI u 119 7 0) u4 ∧ isM u4 129 (mvP c L (P 14) p P) ∧ D_X12_risks (nI p) u = if nI (mvP c L (P 14) p P 14) = nI (P 14) then some (0, u4) else (bc (D_X12_mostOf 129 u4) fun x7 w6 => some (x7, w6)) := by
        intro u n
        obtain ⟨n', on'⟩ := MR_7 n
        obtain ⟨u3, u4, g1, g2, g3, g4, g5⟩ := hM u n
        refine ⟨u4, g5, g4, ?_⟩
        unfold D_X12_risks
        rw [bd_eq, d_refuses ln_120 n'.2.2.1.1 n'.1 hB.1 h6 hB.2.2.2.1 hB.2.2.2.2.2 hp, bc_eq]
        unfold rfS
        rw [if_neg hne, if_pos (by decide), g1, bv_eq, g2, bv_eq, if_pos (by decide), if_pos (by decide), h14, g3, g4.1, eP_at, eP_at]
      have hle : mvP c L (P 14) p P 14 ≤ 1 := (mvP_14 hB hp).1
      have e1' : nI (mvP c L (P 14) p P 14) = nI (P 14) ↔ mvP c L (P 14) p P 14 = P 14 := nI_eq (by omega) (by have := hB.2.2.2.1; omega)
      by_cases ht : mvP c L (P 14) p P 14 = P 14
      · obtain ⟨k1, k2⟩ := CR_q0 m q1
        refine ⟨0, rw, okS_rw ok, ⟨w1, ?_, k1, k2⟩, fun u n => ?_⟩
        · rw [hd, if_neg (by rw [ht1.mp ht]; decide)]
        · obtain ⟨u4, p4, -, hu⟩ := hg u n
          obtain ⟨n', on'⟩ := MR_7 n
          obtain ⟨k3, k4⟩ := MR_q0 n' p4
          exact ⟨u4, by rw [hu, if_pos (e1'.mpr ht)], k3, onM_tr on' k4⟩
      · have hj : JR w1 109 (fun f => f 0) := by
          have hj0 := JR_greed m.2.2.2.2.2.2.2.2.2.2
          unfold JR at hj0 ⊢
          rw [q1.1.1 109 (by decide), q1.1.1 (109 + 1) (by decide)]
          exact hj0
        obtain ⟨w2, e2, e3, b2, at2⟩ := c_choose (q := 6) (o := 109) (by decide) (by decide) (by decide) hB' a1 (q1.2 m.2.2.1 51 (by decide)) hj
        rw [greed_V] at e2 e3
        have e2' : D_X4_choose 6 109 (nI L) w1 = some ((chG c L (mvP c L (P 14) p P) c).1, w2) := e2
        have e3' : w2.1 85 2 = (chG c L (mvP c L (P 14) p P) c).2 := e3
        obtain ⟨k1, k2⟩ := CR_q0 m (qC_tr q1 (q_chooseG b2 at2))
        refine ⟨(chG c L (mvP c L (P 14) p P) c).2, rw, okS_rw ok, ⟨w2, ?_, k1, k2⟩, fun u n => ?_⟩
        · rw [hd, if_pos (by rw [ht2 ht]; rfl), e2', bc_eq, e3']
        · obtain ⟨u4, p4, i4, hu⟩ := hg u n
          obtain ⟨n', on'⟩ := MR_7 n
          obtain ⟨u5, g5, -, p5⟩ := m_mostOf (a := 129) rfl (by decide) (by decide) hB' i4 (p4.2 (arrM_of n')) ((p4.1.2.1 1 (by decide)).trans n'.1) ((p4.1.2.1 2 (by decide)).trans n'.2.1)
          obtain ⟨k3, k4⟩ := MR_q0 n' (qM_tr p4 p5)
          exact ⟨u5, by rw [hu, if_neg (fun z => ht (e1'.mp z)), g5, bc_eq], k3, onM_tr on' k4⟩
end QB
