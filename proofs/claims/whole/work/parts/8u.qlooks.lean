/-! looks: the answer -/
def lnR (l : List Nat) : List Int64 := l.map (fun x => (nI x).toInt64)
theorem lnR_take {l : List Nat} {i : Nat} (h : i < l.length) : lnR (l.take (i + 1)) = lnR (l.take i) ++ [(nI (l.getD i 300)).toInt64] := by
  unfold lnR
  rw [List.take_add_one, getD_lt h, List.map_append]
  rfl
section TL
variable {w u : Wd}
theorem c_tell2 {k2 : Wd → Option Wd} {l : List Nat} (hl : l.length ≤ 4) : ∀ (n i fu : Nat) (w : Wd), n + i = l.length → n < fu → lnC w 0 l → rowC w (lnR (l.take i)) → ∃ w1, L_X10_tellDuel_6 k2 fu (nI i) w = k2 w1 ∧ rowC w1 (lnR l) ∧ same [82] [83] w w1 := by
  intro n
  induction n with
  | zero =>
    intro i fu w hi hf h hr
    obtain ⟨fu, rfl⟩ : ∃ n', fu = n' + 1 := ⟨fu - 1, by omega⟩
    refine ⟨w, ?_, by rw [show i = l.length by omega, List.take_length] at hr; exact hr, same_rf w⟩
    unfold L_X10_tellDuel_6
    rw [if_pos (by decide), show (0 : Int32).toNatClampNeg = 0 from by decide, h.1, if_pos (nI_le (by omega) (by omega))]
  | succ n ih =>
    intro i fu w hi hf h hr
    obtain ⟨fu, rfl⟩ : ∃ n', fu = n' + 1 := ⟨fu - 1, by omega⟩
    have hx : l[i]? = some (l.getD i 300) := getD_lt (by omega)
    have hlen : (lnR (l.take i)).length ≤ 4 := by
      unfold lnR
      rw [List.length_map, List.length_take]
      omega
    obtain ⟨w1, e1, c1, s1⟩ := d_add hr (by omega) (nI (l.getD i 300)).toInt64
    have h1 : lnC w1 0 l := ⟨by rw [s1.1 96 (by decide)]; exact h.1, fun k x hk => by rw [s1.1 (91 + 0) (by decide)]; exact h.2 k x hk⟩
    obtain ⟨w2, e2, c2, s2⟩ := ih (i + 1) fu w1 (by omega) (by omega) h1 (by rw [lnR_take (by omega)]; exact c1)
    refine ⟨w2, ?_, c2, same_tr s1 s2⟩
    unfold L_X10_tellDuel_6
    rw [if_pos (by decide), show (0 : Int32).toNatClampNeg = 0 from by decide, h.1, if_neg (nI_ge (by omega) (by omega)), if_pos (by decide), bd_eq, show ln (91 + 0) = 4 from rfl, if_pos (ib_nI (by omega) (by decide)), nI_clamp (by omega), h.2 i _ hx, e1, bv_eq, bd_eq, nI_1, e2]
theorem m_tell2 {k10 : Wd → Option (Int32 × Wd)} {x9 : Int32} {l : List Nat} (hl : l.length ≤ 4) : ∀ (n i fu : Nat) (u : Wd), n + i = l.length → n < fu → lnM u 0 l → rowM u (lnR (l.take i)) → ∃ u1, L_X12_looks_44 x9 k10 fu (nI i) u = k10 u1 ∧ rowM u1 (lnR l) ∧ sameM [] [122] [6] u u1 := by
  intro n
  induction n with
  | zero =>
    intro i fu w hi hf h hr
    obtain ⟨fu, rfl⟩ : ∃ n', fu = n' + 1 := ⟨fu - 1, by omega⟩
    refine ⟨w, ?_, by rw [show i = l.length by omega, List.take_length] at hr; exact hr, sameM_rf w⟩
    unfold L_X12_looks_44
    rw [if_pos (by decide), show (0 : Int32).toNatClampNeg = 0 from by decide, h.1, if_pos (nI_le (by omega) (by omega))]
  | succ n ih =>
    intro i fu w hi hf h hr
    obtain ⟨fu, rfl⟩ : ∃ n', fu = n' + 1 := ⟨fu - 1, by omega⟩
    have hx : l[i]? = some (l.getD i 300) := getD_lt (by omega)
    have hlen : (lnR (l.take i)).length ≤ 4 := by
      unfold lnR
      rw [List.length_map, List.length_take]
      omega
    obtain ⟨w1, e1, c1, s1⟩ := d_tellM hr (by omega) (nI (l.getD i 300)).toInt64
    have h1 : lnM w1 0 l := ⟨by rw [s1.1.1 148 (by decide)]; exact h.1, fun k x hk => by rw [s1.1.1 (143 + 0) (by decide)]; exact h.2 k x hk⟩
    obtain ⟨w2, e2, c2, s2⟩ := ih (i + 1) fu w1 (by omega) (by omega) h1 (by rw [lnR_take (by omega)]; exact c1)
    refine ⟨w2, ?_, c2, sameM_tr s1 s2⟩
    unfold L_X12_looks_44
    rw [if_pos (by decide), show (0 : Int32).toNatClampNeg = 0 from by decide, h.1, if_neg (nI_ge (by omega) (by omega)), if_pos (by decide), bd_eq, show ln (143 + 0) = 5 from rfl, if_pos (ib_nI (by omega) (by decide)), nI_clamp (by omega), h.2 i _ hx, e1, bv_eq, bd_eq, nI_1, e2]
end TL
theorem q_looks (x : Int32) : Quest (D_X11_looks x) (D_X12_looks x) := by
  intro w c L P hs tx rl cd V kp cl si rw B m ok okr
  have hB := okB_of ok
  have hm := hB.2.2.2.1
  have n4 : (4 : Int32) = nI 4 := by decide +kernel
  rcases rng_cases x 0 4 (by decide) (by decide) with hx | ⟨D, -, hD, rfl⟩
  · refine ⟨-1, rw, okS_rw ok, ⟨w, ?_, m, onC_rf w⟩, fun u n => ⟨_, ?_, (MR_7 n).1, (MR_7 n).2⟩⟩
    · unfold D_X11_looks
      rw [nI_0] at hx
      by_cases h1 : x < 0
      · rw [if_pos h1]
      · rw [if_neg h1, n4, if_neg (Int32.not_le.mpr (hx.resolve_left h1))]
    · unfold D_X12_looks
      rw [bd_eq, n4, in_no0 (by decide) hx, bc_eq, if_pos rfl]
  · have okn : okT c [] := ⟨by decide, by simp⟩
    obtain ⟨w1, e1, T1, q1⟩ := c_start (ot := false) (M := D) (L := L) hB (by omega) m.1 m.2.2.1
    obtain ⟨w2, e2, g2, n2⟩ := c_look (M := D) hB hD D 80 [] w1 (by omega) (by show 0 + D = D; omega) ⟨T1.2.2.2.2.1, T1.2.2.2.2.2.1, T1.2.1, T1.2.2.1, okn⟩
    have hlen := lkF_len (c := c) (L := L) (P0 := P) D []
    have hMg : ∀ u, MR u c L P hs tx rl kp cl si rw → ∃ u1, D_X12_looks (nI D) u = some (if P 14 = 0 then 300 + (lkF c L P D []).1 else 300 + -(lkF c L P D []).1, u1) ∧ MR u1 c L P hs tx rl kp cl si (lnR (lkF c L P D []).2) ∧ onM u u1 := by
      intro u n
      obtain ⟨n', on'⟩ := MR_7 n
      obtain ⟨u2, l2, i2, s2⟩ := m_lay (a := 120) (b := 133) ln_120 (by decide) (by decide) n'.2.2.1 (arrM_of n')
      have q2 : qM FM0 [] _ u2 := qM_sub (qM_at (F := []) (T := []) (r := 133) s2 (by decide) (by decide) (by decide) ⟨_, i2⟩) (by simp) (by simp)
      obtain ⟨nn2, o2⟩ := MR_q0 n' q2
      obtain ⟨u3, e3, g3, r3⟩ := m_look (M := D) hB hD D 80 [] u2 (by omega) (by show 0 + D = D; omega) ⟨i2, q2.2 (arrM_of n'), (s2.2.1 1 (by simp)).trans n'.1, (s2.2.1 2 (by simp)).trans n'.2.1, okn⟩
      obtain ⟨nn3, o3⟩ := MR_q0 nn2 ⟨sameR_sub g3.1.1 (by decide) (by decide) (by simp) (by simp), g3.1.2.1⟩
      have r3' : lnM (wI u3 119 6 0) 0 (lkF c L P D []).2 := ⟨by rw [wI_r (by decide)]; exact r3.1, fun k x hk => by rw [wI_r (by decide)]; exact r3.2 k x hk⟩
      obtain ⟨u4, e4, r4, s4⟩ := m_tell2 (x9 := (lkF c L P D []).1) (k10 := J_X12_looks_x73_1 (lkF c L P D []).1) (l := (lkF c L P D []).2) (by omega) (lkF c L P D []).2.length 0 FU (wI u3 119 6 0) (by omega) (by unfold FU; omega) r3' (row0M u3)
      rw [nI_0] at e4
      obtain ⟨nn4, o4⟩ := MR_q nn3 (qM_tr (qM_f (k := 6) (v := 0) (by decide)) (qM_tell s4)) r4
      refine ⟨u4, ?_, nn4, onM_tr on' (onM_tr o2 (onM_tr o3 o4))⟩
      have e3' : D_X12_look 0 (nI D) u2 = some ((lkF c L P D []).1, u3) := e3
      unfold D_X12_looks
      rw [bd_eq, n4, in_yes0 hD (by decide), bc_eq, if_neg (by decide), if_pos (by decide), bd_eq, show 133 + (0 : Int32).toNatClampNeg = 133 from by decide, l2, bv_eq, e3', bc_eq, bd_eq, e4]
      unfold J_X12_looks_x73_1
      rw [if_pos (by decide), nn4.2.2.1.1, show (14 : Int32).toNatClampNeg = 14 from by decide, eP_at]
      by_cases h0 : P 14 = 0
      · rw [if_pos h0, if_pos (by rw [h0]; rfl)]
      · rw [if_neg h0, if_neg (by rw [nI_z (by omega)]; exact h0)]
    generalize lkF c L P D [] = v at e2 n2 hlen hMg
    obtain ⟨w3, t1, t2, t3⟩ := d_clear w2
    obtain ⟨w4, e4, r4, s4⟩ := c_tell2 (k2 := J_X10_tellDuel_x35_1) (l := v.2) (by omega) v.2.length 0 FU w3 (by omega) (by unfold FU; omega) ⟨by rw [t3.1 96 (by decide)]; exact n2.1, fun k x hk => by rw [t3.1 (91 + 0) (by decide)]; exact n2.2 k x hk⟩ t2
    rw [nI_0] at e4
    have qq : qC EC1 [83] w w4 := qC_tr (qT_up q1) (qC_tr ⟨same_sub g2.1.1 (by decide) (by simp), g2.1.2⟩ (qC_hi (same_tr t3 s4) (by decide) (by decide) (by decide)))
    obtain ⟨k1, k2⟩ := CR_q m qq r4
    have a2 : isAt w2 0 c P := isAt_same (isAt_same m.1 q1.1 (by decide)) g2.1.1 (by decide)
    refine ⟨_, _, ?_, ⟨w4, ?_, k1, k2⟩, hMg⟩
    · unfold lnR
      rw [List.length_map]
      omega
    · have e1' : D_X10_start 0 (nI D) 0 (nI L) w = some w1 := e1
      have e2' : D_X10_leadBehind 0 w1 = some (v.1, w2) := e2
      unfold D_X11_looks D_X10_duel
      rw [if_neg (nI_pos (by omega)), n4, if_pos (nI_le hD (by decide)), imin_nn (by omega) (by decide), show min D 4 = D by omega, m.2.1, e1', bv_eq, e2', bc_eq, isAt_m a2]
      have fin : ∀ z : Int32, (bc (some (z, w2)) fun x2 w1 => bv (D_X10_tellDuel w1) fun w3 => some (300 + x2, w3)) = some (300 + z, w4) := by
        intro z
        unfold D_X10_tellDuel
        rw [bc_eq, t1, bv_eq, e4]
        rfl
      by_cases h0 : P 14 = 0
      · rw [if_pos (by rw [h0]; rfl), if_pos h0]
        exact fin _
      · rw [if_neg (by rw [nI_z (by omega)]; exact h0), if_neg h0]
        exact fin _
