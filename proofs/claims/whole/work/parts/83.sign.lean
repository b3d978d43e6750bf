/-! THE TEXT: sign, end -/
theorem and255 (y : Int32) : ∃ b, b < 256 ∧ y &&& 255 = nI b ∧ b = y.toBitVec.toNat % 256 := by
  refine ⟨y.toBitVec.toNat % 256, Nat.mod_lt _ (by decide), ?_, rfl⟩
  apply Int32.toBitVec_inj.mp
  apply BitVec.eq_of_toNat_eq
  rw [Int32.toBitVec_and, BitVec.toNat_and]
  show y.toBitVec.toNat &&& 255 = (nI (y.toBitVec.toNat % 256)).toBitVec.toNat
  have e : (nI (y.toBitVec.toNat % 256)).toBitVec.toNat = y.toBitVec.toNat % 256 % 2 ^ 32 := rfl
  rw [e, Nat.mod_eq_of_lt (a := y.toBitVec.toNat % 256) (by have := Nat.mod_lt y.toBitVec.toNat (show 256 > 0 by decide); omega)]
  exact Nat.and_two_pow_sub_one_eq_mod _ 8
theorem sgn8 (x : BitVec 32) (s : Nat) (hs : s ≤ 24) : (x.sshiftRight s).setWidth 8 = (x >>> s).setWidth 8 := by
  ext i hi
  simp only [BitVec.getElem_setWidth, BitVec.getLsbD_sshiftRight, BitVec.getLsbD_ushiftRight]
  have h1 : ¬ 32 ≤ i := by omega
  have h2 : s + i < 32 := by omega
  simp [h1, h2]
theorem sgnByte (x : Int32) (s : Nat) (S1 S2 : Int32) (hs : s ≤ 24) (h1 : (x.toUInt32 >>> (S1.toUInt32 &&& Int32.toUInt32 31)).toInt32.toBitVec = x.toBitVec >>> s) (h2 : (x >>> (S2 &&& 31)).toBitVec = x.toBitVec.sshiftRight s) : ∃ b, b < 256 ∧ (x.toUInt32 >>> (S1.toUInt32 &&& Int32.toUInt32 31)).toInt32 &&& 255 = nI b ∧ (x >>> (S2 &&& 31)).toInt8.toInt32 = (nI b).toInt8.toInt32 := by
  obtain ⟨b, hb, e, eb⟩ := and255 (x.toUInt32 >>> (S1.toUInt32 &&& Int32.toUInt32 31)).toInt32
  refine ⟨b, hb, e, ?_⟩
  congr 1
  apply Int8.toBitVec_inj.mp
  show (x >>> (S2 &&& 31)).toBitVec.signExtend 8 = (nI b).toBitVec.signExtend 8
  rw [BitVec.signExtend_eq_setWidth_of_le _ (by decide), BitVec.signExtend_eq_setWidth_of_le _ (by decide), h2, sgn8 _ _ hs]
  apply BitVec.eq_of_toNat_eq
  rw [BitVec.toNat_setWidth, BitVec.toNat_setWidth]
  show (x.toBitVec >>> s).toNat % 2 ^ 8 = b % 2 ^ 32 % 2 ^ 8
  rw [eb, h1]
  omega
theorem in_no0 {x : Int32} {b : Nat} {u : Wd} (hb : b < 2 ^ 30) (h : x < nI 0 ∨ nI b < x) : D_X12_in x 0 (nI b) u = some (0, u) := by
  rw [← nI_0]
  exact (in_no (by decide) hb h).trans (by rw [nI_0])
theorem in_yes0 {i b : Nat} {u : Wd} (h2 : i ≤ b) (hb : b < 2 ^ 30) : D_X12_in (nI i) 0 (nI b) u = some (1, u) := by
  rw [← nI_0]
  exact in_yes (by omega) (Nat.zero_le _) h2 hb
section TX
variable {w w' u u' : Wd} {c L : Nat} {P : Nat → Nat} {hs : List (Nat → Nat)} {tx tx' rl : List Nat} {cd : List Int32} {V : (Nat → Int32) → Int32} {kp : Nat → Option (Nat → Nat)} {cl si : List (Int32 × Int32)} {rw rw' : List Int64} {B : Nat}
theorem CR_text (m : CR w c L P hs tx cd kp cl si rw) (s : same [80, 81] [] w w') (ht : textC w' tx') : CR w' c L P hs tx' cd kp cl si rw ∧ onC w w' := by
  obtain ⟨m1, m2, m3, m4, m5, m6, m7, m8, m9, m10, m11⟩ := m
  exact ⟨⟨isAt_same m1 s (by decide), by rw [s.1 75 (by decide)]; exact m2, posC_same m3 s (by decide), histC_same m4 s (by decide), ht, rowC_same m6 s (by decide) (by decide), keptC_same m7 s (by decide), noteC_same m8 s (by decide) (by decide) (by decide), noteC_same m9 s (by decide) (by decide) (by decide), ruleC_same m10 s (by decide) (by decide), greedC_same m11 s (by decide) (by decide)⟩, onC_same s (by decide) (by simp)⟩
theorem MR_text (n : MR u c L P hs tx rl kp cl si rw) (s : sameR [121, 123] [4, 7, 9, 10, 11, 12] [] [0] u u') (ht : textM u' tx') : MR u' c L P hs tx' rl kp cl si rw ∧ onM u u' := by
  obtain ⟨n1, n2, n3, n4, n5, n6, n7, n8, n9, n10, n11⟩ := n
  exact ⟨⟨(s.2.1 1 (by decide)).trans n1, (s.2.1 2 (by decide)).trans n2, isM_same n3 s (by decide) (by decide), histM_same n4 s (by decide) (by decide), ht, rowM_same n6 s (by decide) (by decide), keptM_same n7 s (by decide) (by decide) (by decide) (by decide), heardM_same n8 s (by decide) (by decide) (by decide), sawM_same n9 s (by decide) (by decide) (by decide), ruleM_same n10 s (by decide) (by decide) (by decide) (by decide) (by decide), arrM_same n11 s (by decide)⟩, onM_sameR s (by decide) (by decide) (by decide)⟩
theorem textC_push {b : Nat} (h : textC w tx) (hl : tx.length < 80) : textC (wI (wI w 81 tx.length (nI b)) 80 1 (nI (tx.length + 1))) (tx ++ [b]) := by
  refine ⟨by rw [wI_at, List.length_append]; rfl, fun i x hi => ?_⟩
  rw [wI_r (by decide)]
  by_cases e : i = tx.length
  · subst e
    rw [List.getElem?_append_right (Nat.le_refl _), Nat.sub_self] at hi
    cases hi
    exact wI_at
  · have hb : i < (tx ++ [b]).length := (List.getElem?_eq_some_iff.mp hi).1
    rw [List.length_append, show [b].length = 1 from rfl] at hb
    rw [List.getElem?_append_left (by omega)] at hi
    rw [wI_at_ne e]
    exact h.2 i x hi
theorem textM_push {b : Nat} (h : textM w tx) (hl : tx.length < 80) : textM (wI (wI w 119 4 (nI (tx.length + 1))) 121 tx.length (nI b).toInt8.toInt32) (tx ++ [b]) := by
  refine ⟨by rw [wI_r (by decide), wI_at, List.length_append]; rfl, fun i x hi => ?_⟩
  by_cases e : i = tx.length
  · subst e
    rw [List.getElem?_append_right (Nat.le_refl _), Nat.sub_self] at hi
    cases hi
    exact wI_at
  · have hb : i < (tx ++ [b]).length := (List.getElem?_eq_some_iff.mp hi).1
    rw [List.length_append, show [b].length = 1 from rfl] at hb
    rw [List.getElem?_append_left (by omega)] at hi
    rw [wI_at_ne e, wI_r (by decide)]
    exact h.2 i x hi
theorem c_sign1 {k : Wd → Option (Int32 × Wd)} {x S : Int32} {b fu : Nat} (h : textC w tx) (hl : tx.length < 80) (hS : ¬ S < 0) (hb : (x.toUInt32 >>> (S.toUInt32 &&& Int32.toUInt32 31)).toInt32 &&& 255 = nI b) : L_X9_addFour_16 x k (fu + 1) S w = L_X9_addFour_16 x k fu (S + (-8)) (wI (wI w 81 tx.length (nI b)) 80 1 (nI (tx.length + 1))) := by
  generalize hR : L_X9_addFour_16 x k fu (S + (-8)) (wI (wI w 81 tx.length (nI b)) 80 1 (nI (tx.length + 1))) = R
  unfold L_X9_addFour_16
  rw [if_neg hS, h.1, if_pos (ib_nI hl (by decide)), bd_eq, bd_eq, bd_eq, nI_clamp (by omega), wI_r (show (80 : Nat) ≠ 81 by decide), h.1, nI_1, hb]
  exact hR
theorem m_sign1 {k : Wd → Option (Int32 × Wd)} {x S : Int32} {b fu : Nat} (h : textM w tx) (hl : tx.length < 80) (hS : ¬ S < 0) (hb2 : b < 256) (hb : (x >>> ((8 * S) &&& 31)).toInt8.toInt32 = (nI b).toInt8.toInt32) : L_X12_sign_20 x k (fu + 1) S w = L_X12_sign_20 x k fu (S + (-1)) (wI (wI w 119 4 (nI (tx.length + 1))) 121 tx.length (nI b).toInt8.toInt32) := by
  generalize hR : L_X12_sign_20 x k fu (S + (-1)) (wI (wI w 119 4 (nI (tx.length + 1))) 121 tx.length (nI b).toInt8.toInt32) = R
  unfold L_X12_sign_20
  rw [if_neg hS, bd_eq, h.1, if_pos (ib_nI hl (by decide)), bd_eq, bd_eq, nI_clamp (by omega), nI_1, hb, byteN _ hb2]
  exact hR
theorem okS_text (hB : B < 90000) (h : okS c L P hs tx kp cl si rw B) (h1 : tx'.length ≤ 80) (h2 : ∀ x ∈ tx', x < 256) : okS c L P hs tx' kp cl si rw (B + 108) := by
  obtain ⟨a1, a2, a3, a4, a5, -, a7⟩ := okS_mono hB h (okS_rw h)
  exact ⟨a1, a2, a3, a4, a5, ⟨h1, h2⟩, a7⟩
theorem t_sign (x : Int32) : Two (D_X11_sign x) (D_X12_sign x) := by
  intro w c L P hs tx rl cd V kp cl si rw B hBB m ok okr
  obtain ⟨hl, hx⟩ := ok.2.2.2.2.2.1
  have ht := m.2.2.2.2.1
  have h4 : (nI tx.length + 4 ≤ 80) ↔ tx.length + 4 ≤ 80 := by
    rw [show (4 : Int32) = nI 4 from by decide +kernel, show (80 : Int32) = nI 80 from by decide +kernel, nI_add, nI_leI (by omega) (by decide)]
  by_cases hl4 : tx.length + 4 ≤ 80
  · obtain ⟨b0, p0, q0, r0⟩ := sgnByte x 24 24 (8 * 3) (by decide) rfl rfl
    obtain ⟨b1, p1, q1, r1⟩ := sgnByte x 16 (24 + (-8)) (8 * (3 + (-1))) (by decide) rfl rfl
    obtain ⟨b2, p2, q2, r2⟩ := sgnByte x 8 (24 + (-8) + (-8)) (8 * (3 + (-1) + (-1))) (by decide) rfl rfl
    obtain ⟨b3, p3, q3, r3⟩ := sgnByte x 0 (24 + (-8) + (-8) + (-8)) (8 * (3 + (-1) + (-1) + (-1))) (by decide) rfl rfl
    have t0 := textC_push (b := b0) ht (by omega)
    have t1 := textC_push (b := b1) t0 (by simp; omega)
    have t2 := textC_push (b := b2) t1 (by simp; omega)
    have t3 := textC_push (b := b3) t2 (by simp; omega)
    have sp : ∀ (w : Wd) (n b k : Nat), same [80, 81] [] w (wI (wI w 81 n (nI b)) 80 1 (nI k)) := fun w n b k => same_tr (same_wI (by simp)) (same_wI (by simp))
    have s3 := same_tr (same_tr (same_tr (sp w tx.length b0 (tx.length + 1)) (sp _ (tx ++ [b0]).length b1 ((tx ++ [b0]).length + 1))) (sp _ (tx ++ [b0] ++ [b1]).length b2 ((tx ++ [b0] ++ [b1]).length + 1))) (sp _ (tx ++ [b0] ++ [b1] ++ [b2]).length b3 ((tx ++ [b0] ++ [b1] ++ [b2]).length + 1))
    obtain ⟨k1, k2⟩ := CR_text m s3 t3
    refine ⟨nI (tx ++ [b0] ++ [b1] ++ [b2] ++ [b3]).length, c, L, P, hs, tx ++ [b0] ++ [b1] ++ [b2] ++ [b3], rl, cd, V, kp, cl, si, rw, okS_text hBB ok (by simp; omega) (by simp only [List.mem_append, List.mem_singleton]; rintro y ((((hy | hy) | hy) | hy) | hy) <;> first | exact hx y hy | (subst hy; assumption)), okr, ⟨_, ?_, k1, k2⟩, fun u n hcm => ?_⟩
    · unfold D_X11_sign D_X9_addFour
      rw [ht.1, if_pos (h4.mpr hl4), show FU = 999995 + 1 + 1 + 1 + 1 + 1 from rfl, c_sign1 ht (by omega) (by decide) q0, c_sign1 t0 (by simp; omega) (by decide) q1, c_sign1 t1 (by simp; omega) (by decide) q2, c_sign1 t2 (by simp; omega) (by decide) q3]
      unfold L_X9_addFour_16
      rw [if_pos (by decide)]
      unfold J_X9_addFour_x52_1
      rw [bc_eq, if_neg (by decide), t3.1]
    · obtain ⟨n', on'⟩ := MR_7 n
      have v := n'.2.2.2.2.1
      have v0 := textM_push (b := b0) v (by omega)
      have v1 := textM_push (b := b1) v0 (by simp; omega)
      have v2 := textM_push (b := b2) v1 (by simp; omega)
      have v3 := textM_push (b := b3) v2 (by simp; omega)
      have up : ∀ (w : Wd) (n : Nat) (b : Int32) (k : Nat), sameR [121, 123] [4, 7, 9, 10, 11, 12] [] [0] w (wI (wI w 119 4 (nI k)) 121 n b) := fun w n b k => sameR_tr (sameR_f (by simp)) (sameR_r (by simp) (by decide))
      have s4 := sameR_tr (sameR_tr (sameR_tr (up (wI u 119 7 0) tx.length (nI b0).toInt8.toInt32 (tx.length + 1)) (up _ (tx ++ [b0]).length (nI b1).toInt8.toInt32 ((tx ++ [b0]).length + 1))) (up _ (tx ++ [b0] ++ [b1]).length (nI b2).toInt8.toInt32 ((tx ++ [b0] ++ [b1]).length + 1))) (up _ (tx ++ [b0] ++ [b1] ++ [b2]).length (nI b3).toInt8.toInt32 ((tx ++ [b0] ++ [b1] ++ [b2]).length + 1))
      obtain ⟨k3, k4⟩ := MR_text n' s4 v3
      refine ⟨_, ?_, k3, came_on hcm (onM_tr on' k4)⟩
      unfold D_X12_sign
      rw [bd_eq, v.1, if_pos (h4.mpr hl4), show FU = 999995 + 1 + 1 + 1 + 1 + 1 from rfl, m_sign1 v (by omega) (by decide) p0 r0, m_sign1 v0 (by simp; omega) (by decide) p1 r1, m_sign1 v1 (by simp; omega) (by decide) p2 r2, m_sign1 v2 (by simp; omega) (by decide) p3 r3]
      unfold L_X12_sign_20
      rw [if_pos (by decide)]
      unfold J_X12_sign_x53_1
      rw [v3.1]
  · refine two_no (-1) hBB m ok okr ?_ (fun u n => ?_)
    · unfold D_X11_sign D_X9_addFour
      rw [ht.1, if_neg (fun z => hl4 (h4.mp z)), bc_eq, if_pos rfl]
    · unfold D_X12_sign
      rw [bd_eq, (MR_7 n).1.2.2.2.2.1.1, if_neg (fun z => hl4 (h4.mp z))]
theorem t_end (x : Int32) : Two (D_X11_end x) (D_X12_end x) := by
  intro w c L P hs tx rl cd V kp cl si rw B hBB m ok okr
  obtain ⟨hl, hx⟩ := ok.2.2.2.2.2.1
  have ht := m.2.2.2.2.1
  rcases rng_cases x 0 tx.length (by decide) (by omega) with hr | ⟨i, -, hi, rfl⟩
  · refine two_no 0 hBB m ok okr ?_ (fun u n => ?_)
    · unfold D_X11_end D_X9_cut
      rw [nI_0] at hr
      by_cases h1 : x < 0
      · rw [if_pos h1, bc_eq, if_pos (by decide)]
      · rw [if_neg h1, ht.1, if_neg (Int32.not_le.mpr (hr.resolve_left h1)), bc_eq, if_pos (by decide)]
    · unfold D_X12_end
      rw [bd_eq, (MR_7 n).1.2.2.2.2.1.1, in_no0 (by omega) hr, bc_eq, if_pos rfl]
  · have hlen : (tx.take i).length = i := by rw [List.length_take]; omega
    have hget : ∀ j x, (tx.take i)[j]? = some x → tx[j]? = some x := fun j x h => by
      rw [List.getElem?_take] at h
      split at h
      · exact h
      · cases h
    have t1 : textC (wI w 80 1 (nI i)) (tx.take i) := ⟨by rw [wI_at, hlen], fun j x hj => by rw [wI_r (by decide)]; exact ht.2 j x (hget j x hj)⟩
    obtain ⟨k1, k2⟩ := CR_text m (same_wI (by simp)) t1
    refine ⟨1, c, L, P, hs, tx.take i, rl, cd, V, kp, cl, si, rw, okS_text hBB ok (by omega) (fun y hy => hx y (List.mem_of_mem_take hy)), okr, ⟨_, ?_, k1, k2⟩, fun u n hcm => ?_⟩
    · unfold D_X11_end D_X9_cut
      rw [if_neg (nI_pos (by omega)), ht.1, if_pos (nI_le hi (by omega)), bd_eq, bc_eq, if_pos (by decide)]
    · obtain ⟨n', on'⟩ := MR_7 n
      have v := n'.2.2.2.2.1
      have v1 : textM (wI (wI u 119 7 0) 119 4 (nI i)) (tx.take i) := ⟨by rw [wI_at, hlen], fun j x hj => by rw [wI_r (by decide)]; exact v.2 j x (hget j x hj)⟩
      obtain ⟨k3, k4⟩ := MR_text n' (sameR_f (by simp)) v1
      refine ⟨_, ?_, k3, came_on hcm (onM_tr on' k4)⟩
      unfold D_X12_end
      rw [bd_eq, v.1, in_yes0 hi (by omega), bc_eq, if_neg (by decide), bd_eq]
end TX
