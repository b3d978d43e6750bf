/-! reach: the answer -/
section QR
variable {w u : Wd} {c L D : Nat} {P0 : Nat → Nat}
theorem m_minmax {k8 : Int32 → Int32 → Wd → Option (Int32 × Wd)} {S : List (Nat → Nat)} {P : Nat → Nat} (h : rcM u S) (hl : S.length ≤ 216) (hi0 : isM u 120 P) (hm : P 14 ≤ 1) (hok : okR (12 + P 14) S) : ∀ (n i fu : Nat), n + i = S.length → n < fu → L_X12_reach_50 k8 fu (nI (loS (12 + P 14) (S.take i))) (if i = 0 then -1 else nI (hiS (12 + P 14) (S.take i))) (nI i) u = k8 (nI (loS (12 + P 14) S)) (if S.length = 0 then -1 else nI (hiS (12 + P 14) S)) u := by
  intro n
  induction n with
  | zero =>
    intro i fu hi hf
    obtain ⟨fu, rfl⟩ : ∃ n', fu = n' + 1 := ⟨fu - 1, by omega⟩
    unfold L_X12_reach_50
    rw [h.1, if_pos (nI_le (by omega) (by omega)), show i = S.length by omega, List.take_length]
  | succ n ih =>
    intro i fu hi hf
    obtain ⟨fu, rfl⟩ : ∃ n', fu = n' + 1 := ⟨fu - 1, by omega⟩
    obtain ⟨q1, q2⟩ := h.2 i _ (gQ_get (show i < S.length by omega))
    have hq := (hok _ (List.mem_of_getElem? (gQ_get (show i < S.length by omega)))).2
    have et : S.take (i + 1) = S.take i ++ [gQ S i] := by
      rw [List.take_add_one, gQ_get (show i < S.length by omega)]
      rfl
    have elo : loS (12 + P 14) (S.take (i + 1)) = min (loS (12 + P 14) (S.take i)) (gQ S i (12 + P 14)) := by
      unfold loS
      rw [et, List.foldl_append]
      rfl
    have ehi : hiS (12 + P 14) (S.take (i + 1)) = max (hiS (12 + P 14) (S.take i)) (gQ S i (12 + P 14)) := by
      unfold hiS
      rw [et, List.foldl_append]
      rfl
    have hlo : loS (12 + P 14) (S.take i) ≤ 1000000 := (fold_min _ 1000000).1
    have hhi : hiS (12 + P 14) (S.take i) < 400000 := (fold_max _ 0).2.2 (by decide) (fun Q hQ => (hok Q (List.mem_of_mem_take hQ)).2)
    have emax : imax (if i = 0 then -1 else nI (hiS (12 + P 14) (S.take i))) (nI (gQ S i (12 + P 14))) = nI (hiS (12 + P 14) (S.take (i + 1))) := by
      by_cases h0 : i = 0
      · rw [if_pos h0, ehi, h0]
        show imax (-1) (nI (gQ S 0 (12 + P 14))) = nI (max 0 (gQ S 0 (12 + P 14)))
        rw [Nat.zero_max]
        rw [h0] at hq
        unfold imax
        have := m1_lt hq
        have hle : ¬ nI (gQ S 0 (12 + P 14)) < -1 := fun z => absurd this (by rw [Int32.not_lt]; exact Int32.le_of_lt z)
        first | rw [if_neg hle] | rw [if_pos this] | (rw [if_neg (by rw [Int32.not_le]; exact this)]) | (rw [if_pos (Int32.le_of_lt this)])
      · rw [if_neg h0, imax_nn (by omega) (by omega), ehi]
    have h16 := ih (i + 1) fu (by omega) (by omega)
    rw [if_neg (show ¬ i + 1 = 0 by omega)] at h16
    unfold L_X12_reach_50
    rw [h.1, if_neg (nI_ge (by omega) (by omega)), if_pos (by decide), hi0.1, show (14 : Int32).toNatClampNeg = 14 from by decide, eP_at, n16, n12, pk_mul, nI_add, nI_add, if_pos (ib_nI (by omega) (by decide)), nI_clamp (by omega), show 16 * i + 12 + P 14 = 16 * i + (12 + P 14) by omega, q2 (12 + P 14) (by omega), bd_eq, bd_eq, bd_eq, bd_eq, nI_1, imin_nn (by omega) (by omega), ← elo, emax, h16]
end QR
theorem q_reach (x : Int32) : Quest (D_X11_reach x) (D_X12_reach x) := by
  intro w c L P hs tx rl cd V kp cl si rw B m ok okr
  have hB := okB_of ok
  have h6 := hB.2.1
  have h2 := hB.1
  have hm := hB.2.2.2.1
  have nn3 : (3 : Int32) = nI 3 := by decide +kernel
  rcases rng_cases x 0 3 (by decide) (by decide) with hx | ⟨D, -, hD, rfl⟩
  · refine ⟨-1, rw, okS_rw ok, ⟨w, ?_, m, onC_rf w⟩, fun u n => ⟨_, ?_, (MR_7 n).1, (MR_7 n).2⟩⟩
    · unfold D_X11_reach
      rw [nI_0] at hx
      by_cases h1 : x < 0
      · rw [if_pos h1]
      · rw [if_neg h1, nn3, if_neg (Int32.not_le.mpr (hx.resolve_left h1))]
    · unfold D_X12_reach
      rw [bd_eq, nn3, in_no0 (by decide) hx, bc_eq, if_pos rfl]
  · have hsz := szT_le (c := c) (n := D) h6 (by omega)
    have hln := sbT_len (c := c) (L := L) (P0 := P) (ot := false) D []
    have hcn : cnD D ([] :: sbT c L P false D []) ≤ 216 := by
      have h1 := lv_sb (c := c) (L := L) (P0 := P) (D := D) (ot := false) D [] (by show 0 + D = D; omega)
      have h2 : c ^ D ≤ 6 ^ D := Nat.pow_le_pow_left h6 D
      have h3 : 6 ^ D ≤ 6 ^ 3 := Nat.pow_le_pow_right (by decide) hD
      have : (6 : Nat) ^ 3 = 216 := by decide
      omega
    have b0 : but [98] w (wI w 98 1 0) := but_wI (by simp)
    have q0 : qC EC0 [] w (wI w 98 1 0) := qC_hi (same_but (T := []) b0) (by decide) (by decide) (by simp)
    have s0 : shC (wI w 98 1 0) [] := ⟨by rw [wI_at]; rfl, fun i Q h => by simp at h⟩
    obtain ⟨w1, e1, T1, q1⟩ := c_start (ot := false) (M := D) (L := L) hB (by omega) (qC_now0 m.1 q0) (q0.2 m.2.2.1)
    obtain ⟨w2, x7, e2, q2, s2, y2⟩ := c_rloop (k4 := J_X11_reach_x134_3) (k5 := J_X11_reach_x143_4) (D := D) hB (by omega) (sbT c L P false D []) FU 0 [] [] 0 w1 (by unfold FU; omega) (by omega) (by show 0 + _ ≤ _; omega) T1 (isAt_same (qC_now0 m.1 q0) q1.1 (by decide)) (by show sbT c L P false D [] ++ [] = _; rw [List.append_nil]) (shC_keep s0 (q1.1.1 98 (by decide)) (q1.1.1 99 (by decide))) (fun Q h => by cases h) (fun z => absurd rfl z)
    have q01 : qC EC0 [] w w2 := qC_tr q0 (qC_tr ⟨same_sub q1.1 (by decide) (by simp), q1.2⟩ q2)
    have hok : ∀ (l : List (List Nat)) (S : List (Nat → Nat)), okR (12 + P 14) S → (∀ τ ∈ l, okT c τ) → okR (12 + P 14) (l.foldl (stR c L P D) S) ∧ (l.foldl (stR c L P D) S).length ≤ S.length + cnD D l := by
      intro l
      induction l with
      | nil => intro S h _; exact ⟨h, Nat.le_refl _⟩
      | cons τ l ihl =>
        intro S h hl
        obtain ⟨a, b⟩ := stR_ok (D := D) hB (by omega) h (hl τ List.mem_cons_self)
        obtain ⟨a2, b2⟩ := ihl _ a (fun t ht => hl t (List.mem_cons_of_mem _ ht))
        have hcc : cnD D (τ :: l) = cnD D [τ] + cnD D l := List.countP_append (l₁ := [τ]) (l₂ := l)
        refine ⟨a2, ?_⟩
        show (l.foldl (stR c L P D) (stR c L P D S τ)).length ≤ _
        omega
    have okn : okT c [] := ⟨by decide, by simp⟩
    obtain ⟨okS', lenS'⟩ := hok ([] :: sbT c L P false D []) [] (fun Q h => by cases h) (fun τ ht => by
      rcases List.mem_cons.mp ht with z | z
      · rw [z]; exact okn
      · exact ok_sb D [] (by show 0 + D ≤ 6; omega) okn τ z)
    have hMg : ∀ u, MR u c L P hs tx rl kp cl si rw → ∃ u1, D_X12_reach (nI D) u = L_X12_reach_50 J_X12_reach_x102_1 FU 1000000 (-1) 0 u1 ∧ MR u1 c L P hs tx rl kp cl si rw ∧ onM u u1 ∧ rcM u1 (([] :: sbT c L P false D []).foldl (stR c L P D) []) := by
      intro u n
      obtain ⟨n', on'⟩ := MR_7 n
      obtain ⟨n1, o1⟩ := MR_q0 n' (qM_f (k := 38) (v := 0) (by decide))
      obtain ⟨u2, l2, i2, s2⟩ := m_lay (a := 120) (b := 133) ln_120 (by decide) (by decide) n1.2.2.1 (arrM_of n1)
      have q2 : qM FM0 [] _ u2 := qM_sub (qM_at (F := []) (T := []) (r := 133) s2 (by decide) (by decide) (by decide) ⟨_, i2⟩) (by simp) (by simp)
      obtain ⟨n2, o2⟩ := MR_q0 n1 q2
      obtain ⟨u3, e3, g3, r3⟩ := m_goReach (D := D) hB (by omega) D 80 [] [] u2 (by omega) (by show 0 + D = D; omega) (by show 0 + _ ≤ _; omega) ⟨i2, q2.2 (arrM_of n1), (s2.2.1 1 (by simp)).trans n1.1, (s2.2.1 2 (by simp)).trans n1.2.1, okn⟩ ⟨by rw [s2.2.1 38 (by simp), wI_at]; rfl, fun i Q h => by simp at h⟩ (fun Q h => by cases h)
      obtain ⟨n3, o3⟩ := MR_q0 n2 ⟨sameR_sub g3.1 (by decide) (by decide) (by simp) (by simp), g3.2.1⟩
      refine ⟨u3, ?_, n3, onM_tr on' (onM_tr o1 (onM_tr o2 o3)), r3⟩
      have e3' : D_X12_goReach 0 (nI D) u2 = some u3 := e3
      unfold D_X12_reach
      rw [bd_eq, nn3, in_yes0 hD (by decide), bc_eq, if_neg (by decide), bd_eq, if_pos (by decide), bd_eq, show 133 + (0 : Int32).toNatClampNeg = 133 from by decide, l2, bv_eq, e3', bv_eq]
    generalize ([] :: sbT c L P false D []).foldl (stR c L P D) [] = S at e2 s2 y2 okS' lenS' hMg
    have hS216 : S.length ≤ 216 := by
      have : ([] : List (Nat → Nat)).length = 0 := rfl
      omega
    obtain ⟨w3, t1, t2, t3⟩ := d_clear w2
    have h98 : w3.1 98 1 = nI S.length := by rw [t3.1 98 (by decide)]; exact s2.1
    have e2' : L_X11_reach_42 (nI D) J_X11_reach_x134_3 J_X11_reach_x143_4 FU 0 0 0 w1 = _ := e2
    have e1' : D_X10_start 0 (nI D) 0 (nI L) (wI w 98 1 0) = some w1 := e1
    have hcs : D_X11_reach (nI D) w = J_X11_reach_x134_3 x7 (nI (hiS (12 + P 14) S)) w2 := by
      unfold D_X11_reach D_X8_clear
      rw [if_neg (nI_pos (by omega)), nn3, if_pos (nI_le hD (by decide)), bd_eq, bv_eq, wI_r (by decide), m.2.1, e1', bv_eq, e2']
    have hmm : ∀ u1, MR u1 c L P hs tx rl kp cl si rw → rcM u1 S → L_X12_reach_50 J_X12_reach_x102_1 FU 1000000 (-1) 0 u1 = J_X12_reach_x102_1 (nI (loS (12 + P 14) S)) (if S.length = 0 then -1 else nI (hiS (12 + P 14) S)) u1 := by
      intro u1 n1 r1
      have := m_minmax (k8 := J_X12_reach_x102_1) r1 hS216 n1.2.2.1 hm okS' S.length 0 FU (by omega) (by unfold FU; omega)
      rw [show S.take 0 = [] from rfl, show loS (12 + P 14) [] = 1000000 from rfl, if_pos rfl, nI_0, show nI 1000000 = (1000000 : Int32) from by decide +kernel] at this
      exact this
    by_cases hz : S.length = 0
    · obtain ⟨k1, k2⟩ := CR_q m (qC_tr (qC_up q01) (qC_hi t3 (by decide) (by decide) (by decide))) t2
      refine ⟨nI S.length, [], by simp, ⟨w3, ?_, k1, k2⟩, fun u n => ?_⟩
      · rw [hcs]
        unfold J_X11_reach_x134_3
        rw [t1, bv_eq, h98, if_pos (by rw [hz]; decide)]
      · obtain ⟨u1, g1, n1, o1, r1⟩ := hMg u n
        obtain ⟨n2, o2⟩ := MR_q n1 (qM_f (k := 6) (v := 0) (by decide)) (row0M u1)
        refine ⟨wI u1 119 6 0, ?_, n2, onM_tr o1 o2⟩
        rw [g1, hmm u1 n1 r1]
        unfold J_X12_reach_x102_1
        rw [bd_eq, wI_at_ne (by decide), r1.1, if_pos (by rw [hz]; decide)]
    · have hne : S ≠ [] := fun z => hz (by rw [z]; rfl)
      have hp : ¬ nI S.length ≤ 0 := by rw [nI_le0 (by omega)]; exact hz
      obtain ⟨w4, t4, t5, t6⟩ := d_tell2 w3 (nI (loS (12 + P 14) S)).toInt64 (nI (hiS (12 + P 14) S)).toInt64
      obtain ⟨k1, k2⟩ := CR_q m (qC_tr (qC_up q01) (qC_hi (same_tr t3 t6) (by decide) (by decide) (by decide))) t5
      refine ⟨nI S.length, _, by simp, ⟨w4, ?_, k1, k2⟩, fun u n => ?_⟩
      · rw [hcs]
        unfold J_X11_reach_x134_3
        rw [t1, bv_eq, h98, if_neg hp, y2 hne, t4, bv_eq, t6.1 98 (by decide), h98]
      · obtain ⟨u1, g1, n1, o1, r1⟩ := hMg u n
        obtain ⟨u2, t7, t8, t9⟩ := d_tellM (row0M u1) (by decide) (nI (loS (12 + P 14) S)).toInt64
        obtain ⟨u3, t10, t11, t12⟩ := d_tellM t8 (by simp) (nI (hiS (12 + P 14) S)).toInt64
        obtain ⟨n2, o2⟩ := MR_q n1 (qM_tr (qM_f (k := 6) (v := 0) (by decide)) (qM_tr (qM_tell t9) (qM_tell t12))) t11
        refine ⟨u3, ?_, n2, onM_tr o1 o2⟩
        rw [g1, hmm u1 n1 r1]
        unfold J_X12_reach_x102_1
        rw [bd_eq, wI_at_ne (by decide), r1.1, if_neg hp, if_neg hz, t7, bv_eq, t10, bv_eq, t12.2 38 (by decide), t9.2 38 (by decide), wI_at_ne (by decide), r1.1]
