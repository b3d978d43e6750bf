/-! luck: the answer -/
theorem pow_scale : ∀ D, D ≤ 4 → (60 : Nat) ^ D * 60 ^ (4 - D) = 12960000 ∧ 360 ^ D * 60 ^ (4 - D) < 2 ^ 34 ∧ 60 ^ D < 2 ^ 24 ∧ 0 < 60 ^ (4 - D) ∧ 360 ^ D < 2 ^ 34 := by decide
theorem q_luck (x y : Int32) : Quest (D_X11_luck x y) (D_X12_luck x y) := by
  intro w c L P hs tx rl cd V kp cl si rw B m ok okr
  have hB := okB_of ok
  have h6 := hB.2.1
  have n4 : (4 : Int32) = nI 4 := by decide +kernel
  have n108 : (108 : Int32) = nI 108 := by decide +kernel
  rcases rng_cases x 0 4 (by decide) (by decide) with hx | ⟨D, -, hD, rfl⟩
  · refine ⟨-1, rw, okS_rw ok, ⟨w, ?_, m, onC_rf w⟩, fun u n => ⟨_, ?_, (MR_7 n).1, (MR_7 n).2⟩⟩
    · unfold D_X11_luck
      rw [nI_0] at hx
      by_cases h1 : x < 0
      · rw [if_pos h1]
      · rw [if_neg h1, n4, if_pos (hx.resolve_left h1)]
    · unfold D_X12_luck
      rw [bd_eq, n4, in_no0 (by decide) hx, bc_eq, if_pos rfl]
  · rcases rng_cases y 0 108 (by decide) (by decide) with hy | ⟨z, -, hz, rfl⟩
    · refine ⟨-1, rw, okS_rw ok, ⟨w, ?_, m, onC_rf w⟩, fun u n => ⟨_, ?_, (MR_7 n).1, (MR_7 n).2⟩⟩
      · unfold D_X11_luck
        rw [nI_0] at hy
        rw [if_neg (nI_pos (by omega)), n4, if_neg (nI_nlt hD (by decide))]
        by_cases h1 : y < 0
        · rw [if_pos h1]
        · rw [if_neg h1, n108, if_neg (Int32.not_le.mpr (hy.resolve_left h1))]
      · unfold D_X12_luck
        rw [bd_eq, n4, in_yes0 hD (by decide), bc_eq, if_neg (by decide), n108, in_no0 (by decide) hy, bc_eq, if_pos rfl]
    · have okn : okT c [] := ⟨by decide, by simp⟩
      have hsz := szT_le (c := c) (n := D) h6 (by omega)
      have hln := sbT_len (c := c) (L := L) (P0 := P) (ot := false) D []
      obtain ⟨p1, p2, p3, p4, p5⟩ := pow_scale D hD
      have ht := luV_le (c := c) (L := L) (P0 := P) (x := z) h6 D []
      have hsum := lu_sum (c := c) (L := L) (P0 := P) (x := z) hD D [] (by show 0 + D = D; omega)
      have hw1 : wgT c L P [] = 1 := rfl
      rw [hw1, Nat.one_mul] at hsum
      obtain ⟨w1, e1, T1, q1⟩ := c_start (ot := false) (M := D) (L := L) hB (by omega) m.1 m.2.2.1
      obtain ⟨w2, e2, q2⟩ := c_uloop (k3 := J_X11_luck_x97_2) (k4 := J_X11_luck_x106_3) (x := z) hB hD hz (sbT c L P false D []) FU 0 0 [] w1 (by unfold FU; omega) (by omega) T1 (by show sbT c L P false D [] ++ [] = _; rw [List.append_nil])
      rw [hsum, nI_0] at e2
      have hMl : ∀ u, tdN u c L P [] → ∃ u1, D_X12_luckOf 0 (nI D) (nI z) u = some (lN (luV c L P z D []), u1) ∧ gr FL [] 0 u u1 := fun u h => m_luckOf hB hD hz D 80 [] u (by omega) (by show 0 + D = D; omega) h
      generalize luV c L P z D [] = t at e2 ht hMl
      generalize hK : (60 : Nat) ^ (4 - D) = K at e2 p1 p2 p4
      have htK : t * K ≤ 360 ^ D * K := Nat.mul_le_mul_right _ ht
      have hg : Nat.gcd (t * K) 12960000 = Nat.gcd t (60 ^ D) * K := by
        rw [← p1]
        exact Nat.gcd_mul_right t K (60 ^ D)
      have hg0 : 0 < Nat.gcd t (60 ^ D) := Nat.gcd_pos_of_pos_right _ (Nat.pow_pos (by decide))
      have hgl : Nat.gcd t (60 ^ D) ≤ 60 ^ D := Nat.gcd_le_right _ (Nat.pow_pos (by decide))
      have hgK : Nat.gcd t (60 ^ D) * K ≤ 12960000 := by
        rw [← p1]
        exact Nat.mul_le_mul_right _ hgl
      have hgK0 : 0 < Nat.gcd t (60 ^ D) * K := Nat.mul_pos hg0 p4
      have d1 : lN (t * K) / lN (Nat.gcd t (60 ^ D) * K) = lN (t / Nat.gcd t (60 ^ D)) := by
        rw [lN_div (by omega) (by omega), Nat.mul_div_mul_right _ _ p4]
      have d2 : lN 12960000 / lN (Nat.gcd t (60 ^ D) * K) = lN (60 ^ D / Nat.gcd t (60 ^ D)) := by
        rw [lN_div (by omega) (by omega), ← p1, Nat.mul_div_mul_right _ _ p4]
      have d3 : lN t / lN (Nat.gcd t (60 ^ D)) = lN (t / Nat.gcd t (60 ^ D)) := lN_div (by omega) (by omega)
      have d4 : lN (60 ^ D) / lN (Nat.gcd t (60 ^ D)) = lN (60 ^ D / Nat.gcd t (60 ^ D)) := lN_div (by omega) (by omega)
      have hne : ¬ lN (Nat.gcd t (60 ^ D) * K) = 0 := by
        rw [lN_z (by omega)]
        omega
      have hne2 : ¬ lN (Nat.gcd t (60 ^ D)) = 0 := by
        rw [lN_z (by omega)]
        omega
      have hcm := c_common (w := w2) (k3 := J_X11_tellFraction_x45_1 (lN (t * K)) (lN 12960000)) (x1 := lN (t * K)) (x2 := lN 12960000) 34 FU 12960000 (t * K) 0 (by omega) (by unfold FU; omega) (by decide) (by decide) (by omega)
      rw [hg, nI_0] at hcm
      generalize hr1 : lN (t / Nat.gcd t (60 ^ D)) = r1 at d1 d3
      generalize hr2 : lN (60 ^ D / Nat.gcd t (60 ^ D)) = r2 at d2 d4
      obtain ⟨w3, t1, t2, t3⟩ := d_tell2 w2 r1 r2
      obtain ⟨k1, k2⟩ := CR_q m (qC_tr (qT_up q1) (qC_tr (qT_up q2) (qC_hi t3 (by decide) (by decide) (by decide)))) t2
      refine ⟨0, [r1, r2], by simp, ⟨w3, ?_, k1, k2⟩, fun u n => ?_⟩
      · have e1' : D_X10_start 0 (nI D) 0 (nI L) w = some w1 := e1
        have e2' : L_X11_luck_43 (nI z) J_X11_luck_x97_2 J_X11_luck_x106_3 FU 0 0 w1 = _ := e2
        have hcm' : L_X11_tellFraction_9 (lN (t * K)) 12960000 (J_X11_tellFraction_x45_1 (lN (t * K)) 12960000) FU 12960000 (lN (t * K)) 0 w2 = _ := hcm
        unfold D_X11_luck
        rw [if_neg (nI_pos (by omega)), n4, if_neg (nI_nlt hD (by decide)), if_neg (nI_pos (by omega)), n108, if_pos (nI_le hz (by decide)), m.2.1, e1', bv_eq, e2']
        unfold J_X11_luck_x97_2 D_X11_tellFraction
        rw [hcm']
        unfold J_X11_tellFraction_x45_1
        rw [if_neg (fun z => hne (lgz.mp z)), if_pos hne, if_pos hne, d1, d2, t1, bv_eq, bv_eq]
      · obtain ⟨n', on'⟩ := MR_7 n
        obtain ⟨u2, l2, i2, s2⟩ := m_lay (a := 120) (b := 133) ln_120 (by decide) (by decide) n'.2.2.1 (arrM_of n')
        have q2 : qM FM0 [] _ u2 := qM_sub (qM_at (F := []) (T := []) (r := 133) s2 (by decide) (by decide) (by decide) ⟨_, i2⟩) (by simp) (by simp)
        obtain ⟨nn2, o2⟩ := MR_q0 n' q2
        obtain ⟨u3, e3, g3⟩ := hMl u2 ⟨i2, q2.2 (arrM_of n'), (s2.2.1 1 (by simp)).trans n'.1, (s2.2.1 2 (by simp)).trans n'.2.1, okn⟩
        obtain ⟨nn3, o3⟩ := MR_q0 nn2 ⟨sameR_sub g3.1 (by decide) (by decide) (by simp) (by simp), g3.2.1⟩
        have ep := m_pow60b (u := u3) (x11 := lN t) (k12 := J_X12_luck_x74_1 (lN t)) hD D 0 FU 1 (by omega) (by unfold FU; omega)
        rw [nI_0, Nat.one_mul] at ep
        have hcm2 := m_common (w := u3) 24 80 t (60 ^ D) p3 (by decide) (by omega) (by omega)
        rw [Nat.gcd_comm] at hcm2
        obtain ⟨u4, t4, t5, t6⟩ := d_tellM (row0M u3) (by decide) r1
        obtain ⟨u5, t7, t8, t9⟩ := d_tellM t5 (by simp) r2
        obtain ⟨nn4, o4⟩ := MR_q nn3 (qM_tr (qM_f (k := 6) (v := 0) (by decide)) (qM_tr (qM_tell t6) (qM_tell t9))) t8
        refine ⟨u5, ?_, nn4, onM_tr on' (onM_tr o2 (onM_tr o3 o4))⟩
        have hcm3 : D_X12_common (lN t) (lN (60 ^ D)) u3 = _ := hcm2
        have ep' : L_X12_luck_54 (nI D) (lN t) (J_X12_luck_x74_1 (lN t)) FU 1 0 u3 = _ := ep
        unfold D_X12_luck
        rw [bd_eq, n4, in_yes0 hD (by decide), bc_eq, if_neg (by decide), n108, in_yes0 hz (by decide), bc_eq, if_neg (by decide), if_pos (by decide), bd_eq, show 133 + (0 : Int32).toNatClampNeg = 133 from by decide, l2, bv_eq, e3, bc_eq, ep']
        unfold J_X12_luck_x74_1
        rw [hcm3, bc_eq, bd_eq, if_pos hne2, d3, t4, bv_eq, if_pos hne2, d4, t7, bv_eq]
