/-! moves, passes, adds, undo -/
section TM1
theorem t_moves (x : Int32) : Two (D_X11_moves x) (D_X12_moves x) := by
  intro w c L P hs tx rl cd V kp cl si rw B hBB m ok okr
  have hB := okB_of ok
  have h6 := hB.2.1
  have hl := ok.2.2.2.2.1.1
  rcases arg_cases c (by omega) x with hx | ⟨p, hp, rfl⟩
  · refine two_no (-1) hBB m ok okr ?_ (fun u n => ?_)
    · unfold D_X11_moves
      rw [d_refusal_no (isAt_c m.1) hx, bc_eq, if_neg (by decide)]
    · unfold D_X12_moves
      rw [bd_eq, d_refuses_no (MR_7 n).1.1 hB.1 h6 hx, bc_eq, if_neg (by decide)]
  · by_cases hne : P (P 14 * c + p) = 0
    · refine two_no (-2) hBB m ok okr ?_ (fun u n => ?_)
      · unfold D_X11_moves
        rw [d_refusal m.1 h6 hB.2.2.2.1 hB.2.2.2.2.2 hp, bc_eq]
        unfold rfS
        rw [if_pos hne, if_neg (by decide)]
      · unfold D_X12_moves
        rw [bd_eq, d_refuses ln_120 (MR_7 n).1.2.2.1.1 (MR_7 n).1.1 hB.1 h6 hB.2.2.2.1 hB.2.2.2.2.2 hp, bc_eq]
        unfold rfS
        rw [if_pos hne, if_neg (by decide)]
    · obtain ⟨w1, e1, k1, k2⟩ := c_moves m hB hp hne
      obtain ⟨a14, atot⟩ := mvP_14 hB hp
      refine ⟨gainS c L (P 14) p P, c, L, mvP c L (P 14) p P, pushS hs P, tx, rl, cd, V, kp, cl, si, rowS c L (P 14) p P, okS_pos hBB ok (by simp [rowS]) a14 (by rw [atot]; have := ok.2.2.2.1.2; omega) (pushS_len hl).1 (fun Q hQ => push_mem hQ), okr, ⟨w1, e1, k1, k2⟩, fun u n hcm => ?_⟩
      obtain ⟨u1, g1, k3, k4⟩ := m_moves n hB hl hp hne
      exact ⟨u1, g1, k3, came_on hcm k4⟩
theorem t_passes : Two D_X11_passes D_X12_passes_ := by
  intro w c L P hs tx rl cd V kp cl si rw B hBB m ok okr
  have hB := okB_of ok
  have hm := hB.2.2.2.1
  have hl := ok.2.2.2.2.1.1
  obtain ⟨w1, e1, m1, on1, r1⟩ := CR_push (r := 0) (by decide) (by decide) m m.1
  obtain ⟨w2, e2, a2, b2⟩ := d_pass m1.1 hm
  obtain ⟨k1, k2⟩ := CR_n0 m1 (qC_at (r := 0) (by decide) b2 (by decide) (by decide) ⟨_, _, a2⟩) a2
  refine ⟨nI (1 - P 14), c, L, uN P 14 (1 - P 14), pushS hs P, tx, rl, cd, V, kp, cl, si, rw, okS_pos hBB ok (okS_rw ok) (by rw [uN_self]; omega) (by rw [tot_uN' (by omega)]; have := ok.2.2.2.1.2; omega) (pushS_len hl).1 (fun Q hQ => push_mem hQ), okr, ⟨w2, ?_, k1, onC_tr on1 k2⟩, fun u n hcm => ?_⟩
  · unfold D_X11_passes
    rw [e1, bv_eq, e2, bv_eq, a2.1, oP_3, uN_self]
  · obtain ⟨n', on'⟩ := MR_7 n
    obtain ⟨u1, g1, n1, on1', s1⟩ := MR_push (Or.inl rfl) n' hl n'.2.2.1
    have i2 : isM (wI u1 120 14 (nI (1 - P 14))) 120 (uN P 14 (1 - P 14)) := by
      refine ⟨?_, uN_hi (by decide) n1.2.2.1.2⟩
      rw [wI_wR, wR_self, n1.2.2.1.1, upd_eP]
    have s2 : sameR [120] [] [] [] u1 (wI u1 120 14 (nI (1 - P 14))) := sameR_r (by simp) (by decide)
    obtain ⟨k3, k4⟩ := MR_n0 n1 ⟨sameR_sub s2 (by decide) (by simp) (by simp) (by simp), fun z => arrM_same z s2 (by decide)⟩ i2
    refine ⟨_, ?_, k3, came_on hcm (onM_tr on' (onM_tr on1' k4))⟩
    unfold D_X12_passes_
    rw [bd_eq, g1, bv_eq, if_pos (by decide), if_pos (by decide), n1.2.2.1.1, show (14 : Int32).toNatClampNeg = 14 from by decide, eP_at, one_sub hm, bd_eq, if_pos (by decide), wI_at]
theorem d_inAll {w : Wd} {q c : Nat} {P : Nat → Nat} (h : isAt w q c P) (h6 : c ≤ 6) : D_X5_inAll q w = some (nI (P 12 + sumS P (0 * c) c + (P 13 + sumS P (1 * c) c)), w) := by
  unfold D_X5_inAll
  have o0 := d_owned (s := 0) h h6 (by decide)
  have o1 := d_owned (s := 1) h h6 (by decide)
  rw [nI_0] at o0
  rw [← nI_1'] at o1
  rw [o0, bc_eq, o1, bc_eq, nI_add, nI_add, nI_add]
theorem sumS_add {P : Nat → Nat} {b : Nat} (n : Nat) : ∀ m, sumS P b (n + m) = sumS P b n + sumS P (b + n) m := by
  intro m
  induction m with
  | zero => rfl
  | succ m ih =>
    show sumS P b (n + m) + P (b + (n + m)) = sumS P b n + (sumS P (b + n) m + P (b + n + m))
    rw [ih, Nat.add_assoc b n m]
    omega
theorem sum_2c {P : Nat → Nat} {c : Nat} : sumS P 0 (2 * c) = sumS P (0 * c) c + sumS P (1 * c) c := by
  rw [show 2 * c = c + c by omega, sumS_add, Nat.zero_mul, Nat.one_mul, Nat.zero_add]
theorem d_inPits {w : Wd} {q c : Nat} {P : Nat → Nat} (h : isAt w q c P) (h6 : c ≤ 6) : D_X5_inPits q w = some (nI (sumS P 0 (2 * c)), w) := by
  unfold D_X5_inPits
  have o0 := d_inPitsOf (m := 0) (isAt_c h) (isAt_s h) h6 (by decide)
  have o1 := d_inPitsOf (m := 1) (isAt_c h) (isAt_s h) h6 (by decide)
  rw [nI_0] at o0
  rw [← nI_1'] at o1
  rw [o0, bc_eq, o1, bc_eq, nI_add, sum_2c]
theorem m_inPits {u : Wd} {c : Nat} {P : Nat → Nat} (h : u.1 120 = eP P) (h6 : c ≤ 6) : D_X12_seeds 120 0 (nI (2 * c)) u = some (nI (sumS P 0 (2 * c)), u) := by
  have sd0 := d_seeds (w := u) (a := 120) (b := 0) (n0 := 2 * c) (S := P) (fun i _ => by rw [h]; rfl) (by show 0 + 2 * c ≤ 16; omega) (by decide) (by omega)
  rw [nI_0] at sd0
  exact sd0
theorem t_adds (x y : Int32) : Two (D_X11_adds x y) (D_X12_adds x y) := by
  intro w c L P hs tx rl cd V kp cl si rw B hBB m ok okr
  have hB := okB_of ok
  have h6 := hB.2.1
  have h2 := hB.1
  have h9 : (9 : Int32) = nI 9 := by decide +kernel
  have hl := ok.2.2.2.2.1.1
  have hP : ∀ u, MR u c L P hs tx rl kp cl si rw → D_X12_pits (wI u 119 7 0) = some (nI (2 * c), wI u 119 7 0) := fun u n => d_pits12 (MR_7 n).1.1
  rcases arg_cases (2 * c) (by omega) x with hx | ⟨i, hi, rfl⟩
  · refine two_no (-1) hBB m ok okr ?_ (fun u n => ?_)
    · unfold D_X11_adds
      rw [d_hasPit_no (isAt_c m.1) hx, bc_eq, if_pos rfl]
    · unfold D_X12_adds
      rw [bd_eq, hP u n, bc_eq, d_in0_no (by omega) (by omega) hx, bc_eq, if_pos rfl]
  · have hc1 : ∀ (k : Int32 → Wd → Option (Int32 × Wd)), bc (D_X5_hasPit 0 (nI i) w) k = k 1 w := fun k => by rw [d_hasPit (n := 0) (isAt_c m.1) h6 hi, bc_eq]
    have hg1 : ∀ (u : Wd) (k : Int32 → Wd → Option (Int32 × Wd)), bc (D_X12_in (nI i) 0 (nI (2 * c) - 1) u) k = k 1 u := fun u k => by rw [d_in0 hi (by omega), bc_eq]
    rcases rng_cases y 1 9 (by decide) (by decide) with hy | ⟨j, hj1, hj, rfl⟩
    · refine two_no (-1) hBB m ok okr ?_ (fun u n => ?_)
      · unfold D_X11_adds
        rw [hc1, if_neg (by decide), h9, nI_1']
        by_cases h1 : y < nI 1
        · rw [if_pos h1]
        · rw [if_neg h1, if_neg (Int32.not_le.mpr (hy.resolve_left h1))]
      · unfold D_X12_adds
        rw [bd_eq, hP u n, bc_eq, hg1, if_neg (by decide), h9, nI_1', in_no (by decide) (by decide) hy, bc_eq, if_pos rfl]
    · have hlt : P i < 400000 := by have := le_tot (P := P) (i := i) (by omega); have := hB.2.2.2.2.2; omega
      have hbig : P 12 + sumS P (0 * c) c + (P 13 + sumS P (1 * c) c) < 2 ^ 29 := by
        have t1 := le_tot (P := P) (i := 12) (by omega)
        have t2 := le_tot (P := P) (i := 13) (by omega)
        have t3 := sumS_lt (P := P) (b := 0 * c) c (by omega)
        have t4 := sumS_lt (P := P) (b := 1 * c) c (by omega)
        have t5 := hB.2.2.2.2.2
        omega
      have hsum : sumS P 0 (2 * c) + sumS P 12 2 = P 12 + sumS P (0 * c) c + (P 13 + sumS P (1 * c) c) := by
        rw [sum_2c]
        show sumS P (0 * c) c + sumS P (1 * c) c + (0 + P 12 + P 13) = _
        omega
      have h200 : (nI (P 12 + sumS P (0 * c) c + (P 13 + sumS P (1 * c) c)) + nI j ≤ 200) ↔ P 12 + sumS P (0 * c) c + (P 13 + sumS P (1 * c) c) + j ≤ 200 := by
        rw [nI_add, show (200 : Int32) = nI 200 from by decide +kernel, nI_leI (by omega) (by decide)]
      have hc2 : D_X11_adds (nI i) (nI j) w = if nI (P 12 + sumS P (0 * c) c + (P 13 + sumS P (1 * c) c)) + nI j ≤ 200 then (bv (D_X0_push 0 w) fun w5 => if ib (nI i) 12 then (if ib (nI i) 12 then bd (wI w5 1 (nI i).toNatClampNeg ((w5.1 1 (nI i).toNatClampNeg) + nI j)) (fun w6 => if ib (nI i) 12 then (some (w6.1 1 (nI i).toNatClampNeg, w6)) else none) else none) else none) else (some ((-2), w)) := by
        unfold D_X11_adds
        rw [hc1, if_neg (by decide), nI_1', if_neg (nI_nlt hj1 (by omega)), h9, if_pos (nI_le hj (by decide)), d_inAll m.1 h6, bc_eq]
      have hg2 : ∀ u, MR u c L P hs tx rl kp cl si rw → D_X12_adds (nI i) (nI j) u = if nI (P 12 + sumS P (0 * c) c + (P 13 + sumS P (1 * c) c)) + nI j ≤ 200 then (bv (D_X12_remember 120 (wI u 119 7 0)) fun w14 => if ib (nI i) 16 then (if ib (nI i) 16 then bd (wI w14 120 (nI i).toNatClampNeg ((w14.1 120 (nI i).toNatClampNeg) + nI j)) (fun w15 => if ib (nI i) 16 then (some (w15.1 120 (nI i).toNatClampNeg, w15)) else none) else none) else none) else (some ((-2), wI u 119 7 0)) := by
        intro u n
        obtain ⟨n', on'⟩ := MR_7 n
        have sd1 := d_seeds (w := wI u 119 7 0) (a := 120) (b := 12) (n0 := 2) (S := P) (fun i _ => by rw [n'.2.2.1.1]; rfl) (by decide) (by decide) (by decide)
        unfold D_X12_adds
        rw [bd_eq, hP u n, bc_eq, hg1, if_neg (by decide), h9, nI_1', in_yes (by omega) hj1 hj (by decide), bc_eq, if_neg (by decide), hP u n, bc_eq, m_inPits n'.2.2.1.1 h6, bc_eq, n12, nI_2', sd1, bc_eq, nI_add (sumS P 0 (2 * c)), hsum]
      by_cases hle : P 12 + sumS P (0 * c) c + (P 13 + sumS P (1 * c) c) + j ≤ 200
      · have b12 : ib (nI i) 12 = true := ib_nI (by omega) (by omega)
        have b16 : ib (nI i) 16 = true := ib_nI (by omega) (by omega)
        obtain ⟨w1, e1, m1, on1, r1⟩ := CR_push (r := 0) (by decide) (by decide) m m.1
        have a2 : isAt (wI w1 1 i (nI (P i + j))) 0 c (uN P i (P i + j)) := by
          refine ⟨?_, ?_, ?_⟩
          · rw [wI_r (by decide), m1.1.1]
            exact (oP_lo (by omega)).symm
          · rw [wI_wR, wR_self, m1.1.2.1, upd_sP (by omega)]
          · rw [wI_r (by decide), m1.1.2.2]
            exact (tP_lo (Or.inl (by omega))).symm
        have b2 : but [1] w1 (wI w1 1 i (nI (P i + j))) := but_wI (by simp)
        obtain ⟨k1, k2⟩ := CR_n0 m1 (qC_at (r := 0) (by decide) b2 (by decide) (by decide) ⟨_, _, a2⟩) a2
        have ht : tot (uN P i (P i + j)) = tot P + j := by
          have := tot_uN (P := P) (k := i) (v := P i + j) (by omega)
          omega
        refine ⟨nI (P i + j), c, L, uN P i (P i + j), pushS hs P, tx, rl, cd, V, kp, cl, si, rw, okS_pos hBB ok (okS_rw ok) (by rw [uN_ne (by omega)]; exact hB.2.2.2.1) (by rw [ht]; have := ok.2.2.2.1.2; omega) (pushS_len hl).1 (fun Q hQ => push_mem hQ), okr, ⟨_, ?_, k1, onC_tr on1 k2⟩, fun u n hcm => ?_⟩
        · rw [hc2, if_pos (h200.mpr hle), e1, bv_eq, if_pos b12, if_pos b12, nI_clamp (by omega), isAt_s m1.1 i (by omega), nI_add, bd_eq, if_pos b12, wI_at]
        · obtain ⟨n', on'⟩ := MR_7 n
          obtain ⟨u1, g1, n1, on1', s1⟩ := MR_push (Or.inl rfl) n' hl n'.2.2.1
          have i2 : isM (wI u1 120 i (nI (P i + j))) 120 (uN P i (P i + j)) := by
            refine ⟨?_, uN_hi (by omega) n1.2.2.1.2⟩
            rw [wI_wR, wR_self, n1.2.2.1.1, upd_eP]
          have s2 : sameR [120] [] [] [] u1 (wI u1 120 i (nI (P i + j))) := sameR_r (by simp) (by decide)
          obtain ⟨k3, k4⟩ := MR_n0 n1 ⟨sameR_sub s2 (by decide) (by simp) (by simp) (by simp), fun z => arrM_same z s2 (by decide)⟩ i2
          refine ⟨_, ?_, k3, came_on hcm (onM_tr on' (onM_tr on1' k4))⟩
          rw [hg2 u n, if_pos (h200.mpr hle), g1, bv_eq, if_pos b16, if_pos b16, nI_clamp (by omega), n1.2.2.1.1, eP_at, nI_add, bd_eq, if_pos b16, wI_at]
      · refine two_no (-2) hBB m ok okr ?_ (fun u n => ?_)
        · rw [hc2, if_neg (fun z => hle (h200.mp z))]
        · rw [hg2 u n, if_neg (fun z => hle (h200.mp z))]
end TM1
