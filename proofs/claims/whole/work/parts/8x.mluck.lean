/-! luck: the reference -/
section ML2
variable {w u : Wd} {c L D x : Nat} {P0 : Nat → Nat}
theorem m_pow60 {rec : Int32 → Int32 → Int32 → Wd → Option (Int64 × Wd)} {x2 x4 : Int32} {q5 : Nat} {k6 : Int64 → Wd → Option (Int64 × Wd)} (hD : D ≤ 4) : ∀ (n i fu a : Nat), n + i = D → n < fu → L_X12_luckOf_14 rec x2 (nI D) x4 q5 k6 fu (lN a) (nI i) u = k6 (lN (a * 60 ^ n)) u := by
  intro n
  induction n with
  | zero =>
    intro i fu a hi hf
    obtain ⟨fu, rfl⟩ : ∃ n', fu = n' + 1 := ⟨fu - 1, by omega⟩
    unfold L_X12_luckOf_14
    rw [if_pos (nI_le (by omega) (by omega)), Nat.pow_zero, Nat.mul_one]
  | succ n ih =>
    intro i fu a hi hf
    obtain ⟨fu, rfl⟩ : ∃ n', fu = n' + 1 := ⟨fu - 1, by omega⟩
    unfold L_X12_luckOf_14
    rw [if_neg (nI_ge (by omega) (by omega)), show (60 : Int64) = lN 60 from rfl, lN_mul, bd_eq, bd_eq, nI_1, ih (i + 1) fu (a * 60) (by omega) (by omega), Nat.pow_succ, Nat.mul_assoc, Nat.mul_comm 60]
theorem m_pow60b {x11 : Int64} {k12 : Int64 → Wd → Option (Int32 × Wd)} (hD : D ≤ 4) : ∀ (n i fu a : Nat), n + i = D → n < fu → L_X12_luck_54 (nI D) x11 k12 fu (lN a) (nI i) u = k12 (lN (a * 60 ^ n)) u := by
  intro n
  induction n with
  | zero =>
    intro i fu a hi hf
    obtain ⟨fu, rfl⟩ : ∃ n', fu = n' + 1 := ⟨fu - 1, by omega⟩
    unfold L_X12_luck_54
    rw [if_pos (nI_le (by omega) (by omega)), Nat.pow_zero, Nat.mul_one]
  | succ n ih =>
    intro i fu a hi hf
    obtain ⟨fu, rfl⟩ : ∃ n', fu = n' + 1 := ⟨fu - 1, by omega⟩
    unfold L_X12_luck_54
    rw [if_neg (nI_ge (by omega) (by omega)), show (60 : Int64) = lN 60 from rfl, lN_mul, bd_eq, bd_eq, nI_1, ih (i + 1) fu (a * 60) (by omega) (by omega), Nat.pow_succ, Nat.mul_assoc, Nat.mul_comm 60]
theorem m_cnt {rec : Int32 → Int32 → Int32 → Wd → Option (Int64 × Wd)} {x19 x20 x21 : Int32} {k : Int32 → Wd → Option (Int64 × Wd)} {r : List Nat} (hB : okB c L (P0 14) P0) (h : tdN u c L P0 r) : ∀ (n i fu : Nat), n + i = c → n < fu → L_X12_luckOf_70 rec x19 x20 x21 (133 + r.length) k fu (nI (fulC (psT c L P0 r) (psT c L P0 r 14 * c) i)) (nI i) u = k (nI (fulC (psT c L P0 r) (psT c L P0 r 14 * c) c)) u := by
  have h6 := hB.2.1
  intro n
  induction n with
  | zero =>
    intro i fu hi hf
    obtain ⟨fu, rfl⟩ : ∃ n', fu = n' + 1 := ⟨fu - 1, by omega⟩
    unfold L_X12_luckOf_70
    rw [h.2.2.1, if_pos (nI_le (by omega) (by omega)), show i = c by omega]
  | succ n ih =>
    intro i fu hi hf
    obtain ⟨fu, rfl⟩ : ∃ n', fu = n' + 1 := ⟨fu - 1, by omega⟩
    have step := ih (i + 1) fu (by omega) (by omega)
    have e : fulC (psT c L P0 r) (psT c L P0 r 14 * c) (i + 1) = fulC (psT c L P0 r) (psT c L P0 r 14 * c) i + (if psT c L P0 r (psT c L P0 r 14 * c + i) = 0 then 0 else 1) := rfl
    unfold L_X12_luckOf_70
    rw [h.2.2.1, if_neg (nI_ge (by omega) (by omega)), m_refN hB h (by omega), bc_eq, bd_eq]
    by_cases hz : psT c L P0 r (psT c L P0 r 14 * c + i) = 0
    · rw [if_pos hz, Nat.add_zero (fulC (psT c L P0 r) (psT c L P0 r 14 * c) i)] at e
      rw [if_pos hz, if_neg (by decide)]
      unfold J_X12_luckOf_j97_1
      rw [bd_eq, bd_eq, nI_1, Int32.add_zero, ← step, e]
    · rw [if_neg hz] at e
      rw [if_neg hz, if_pos rfl]
      unfold J_X12_luckOf_j97_1
      rw [bd_eq, bd_eq, nI_1, nI_1, ← step, e]
theorem m_luckOf (hB : okB c L (P0 14) P0) (hD : D ≤ 4) (hx : x ≤ 108) : ∀ (n fu : Nat) (r : List Nat) (u : Wd), n < fu → r.length + n = D → tdN u c L P0 r → ∃ u1, E_X12_luckOf fu (nI r.length) (nI D) (nI x) u = some (lN (luV c L P0 x n r), u1) ∧ gr FL [] r.length u u1 := by
  have hc6 := hB.2.1
  have leaf : ∀ (r : List Nat) (u : Wd) (a : Nat), tdN u c L P0 r → J_X12_luckOf_j48_5 (133 + r.length) (nI x) (lN a) u = some (lN (if x ≤ psT c L P0 r 12 then a else 0), u) := by
    intro r u a h
    have hP := (psT_ok (L := L) hB r h.2.2.2.2).1
    have hln : ln (133 + r.length) = 16 := (arr_ln (isArr_T h.2.2.2.2.1)).1
    have hst := le_tot (P := psT c L P0 r) (i := 12) (by decide)
    have hb := hP.2.2.2.2.2
    unfold J_X12_luckOf_j48_5
    rw [hln, if_pos (by decide), h.1.1, show (12 : Int32).toNatClampNeg = 12 from by decide, eP_at]
    by_cases hlt : psT c L P0 r 12 < x
    · rw [if_pos (nI_lt hlt (by omega)), if_neg (by omega)]
      rfl
    · rw [if_neg (nI_nlt (by omega) (by omega)), if_pos (by omega)]
  intro n
  induction n with
  | zero =>
    intro fu r u hf hr h
    obtain ⟨fu, rfl⟩ : ∃ n', fu = n' + 1 := ⟨fu - 1, by omega⟩
    refine ⟨u, ?_, gr_rf u⟩
    have e1 := m_pow60 (u := u) (rec := fun p1 p2 p3 w => E_X12_luckOf fu p1 p2 p3 w) (x2 := nI r.length) (x4 := nI x) (q5 := 133 + r.length) (k6 := J_X12_luckOf_x34_6 (133 + r.length) (nI x) (nI r.length) (nI D) (fun p1 p2 p3 w => E_X12_luckOf fu p1 p2 p3 w)) hD 0 r.length FU 1 (by omega) (by unfold FU; omega)
    show B_X12_luckOf _ _ _ _ u = _
    unfold B_X12_luckOf
    rw [if_pos (ib_nI (by omega) (by decide)), bd_eq, nI_clamp (by omega), show (1 : Int64) = lN 1 from rfl, e1]
    unfold J_X12_luckOf_x34_6
    rw [bd_eq, if_pos (by rw [show r.length = D by omega]), leaf r u _ h]
    rfl
  | succ n ih =>
    intro fu r u hf hr h
    obtain ⟨fu, rfl⟩ : ∃ n', fu = n' + 1 := ⟨fu - 1, by omega⟩
    have hP := (psT_ok (L := L) hB r h.2.2.2.2).1
    have hln : ln (133 + r.length) = 16 := (arr_ln (isArr_T (by omega))).1
    have e1 := m_pow60 (u := u) (rec := fun p1 p2 p3 w => E_X12_luckOf fu p1 p2 p3 w) (x2 := nI r.length) (x4 := nI x) (q5 := 133 + r.length) (k6 := J_X12_luckOf_x34_6 (133 + r.length) (nI x) (nI r.length) (nI D) (fun p1 p2 p3 w => E_X12_luckOf fu p1 p2 p3 w)) hD (n + 1) r.length FU 1 (by omega) (by unfold FU; omega)
    rw [Nat.one_mul] at e1
    have cn := m_cnt (u := u) (rec := fun p1 p2 p3 w => E_X12_luckOf fu p1 p2 p3 w) (x19 := nI r.length) (x20 := nI D) (x21 := nI x) (k := J_X12_luckOf_x106_4 (fun p1 p2 p3 w => E_X12_luckOf fu p1 p2 p3 w) (nI r.length) (nI D) (nI x) (133 + r.length)) hB h c 0 FU rfl (by unfold FU; omega)
    rw [show fulC (psT c L P0 r) (psT c L P0 r 14 * c) 0 = 0 from rfl, nI_0] at cn
    have ev : luV c L P0 x (n + 1) r = if overS c (psT c L P0 r) = true then (if x ≤ psT c L P0 r 12 then 60 ^ (n + 1) else 0) else luK c L P0 (luV c L P0 x n) r c 0 := rfl
    have hgo : E_X12_luckOf (fu + 1) (nI r.length) (nI D) (nI x) u = if overS c (psT c L P0 r) = true then some (lN (if x ≤ psT c L P0 r 12 then 60 ^ (n + 1) else 0), u) else L_X12_luckOf_112 (fun p1 p2 p3 w => E_X12_luckOf fu p1 p2 p3 w) (nI r.length) (nI D) (nI x) (133 + r.length) (nI (fulC (psT c L P0 r) (psT c L P0 r 14 * c) c)) J_X12_luckOf_x191_3 FU (lN 0) 0 u := by
      show B_X12_luckOf _ _ _ _ u = _
      unfold B_X12_luckOf
      rw [if_pos (ib_nI (by omega) (by decide)), bd_eq, nI_clamp (by omega), show (1 : Int64) = lN 1 from rfl, e1]
      unfold J_X12_luckOf_x34_6
      rw [bd_eq, if_neg (by rw [nI_eq (by omega) (by omega)]; omega), m_over hln h.1 h.2.2.1 hP, bc_eq]
      by_cases e : overS c (psT c L P0 r) = true
      · rw [if_pos e, if_pos e, if_neg (by decide), leaf r u _ h]
      · rw [if_neg e, if_neg e, if_pos rfl, cn]
        rfl
    rw [hgo, ev]
    by_cases e : overS c (psT c L P0 r) = true
    · rw [if_pos e, if_pos e]
      exact ⟨u, rfl, gr_rf u⟩
    · rw [if_neg e, if_neg e]
      have hfp : 0 < fulC (psT c L P0 r) (psT c L P0 r 14 * c) c := fulC_pos c (fun z => e (over_iff.mp z))
      have hfe := fulC_em (P := psT c L P0 r) (b := psT c L P0 r 14 * c) c
      have hfm : fmT c L P0 r = fulC (psT c L P0 r) (psT c L P0 r 14 * c) c := by
        unfold fmT
        omega
      rw [← hfm]
      have f6 := fm_in (L := L) hB r
      have hml : (nI (fmT c L P0 r)).toInt64 = lN (fmT c L P0 r) := nI_l (by omega)
      have hmz : ¬ lN (fmT c L P0 r) = 0 := by
        rw [lN_z (by omega)]
        omega
      have kids : ∀ (m p fu2 a : Nat) (u : Wd), m + p = c → m < fu2 → tdN u c L P0 r → ∃ u1, L_X12_luckOf_112 (fun p1 p2 p3 w => E_X12_luckOf fu p1 p2 p3 w) (nI r.length) (nI D) (nI x) (133 + r.length) (nI (fmT c L P0 r)) J_X12_luckOf_x191_3 fu2 (lN a) (nI p) u = some (lN (a + luK c L P0 (luV c L P0 x n) r m p), u1) ∧ gr FL [] r.length u u1 := by
        intro m
        induction m with
        | zero =>
          intro p fu2 a u hp hf2 h
          obtain ⟨fu2, rfl⟩ : ∃ n', fu2 = n' + 1 := ⟨fu2 - 1, by omega⟩
          refine ⟨u, ?_, gr_rf u⟩
          unfold L_X12_luckOf_112
          rw [h.2.2.1, if_pos (nI_le (by omega) (by omega))]
          rfl
        | succ m ihm =>
          intro p fu2 a u hp hf2 h
          obtain ⟨fu2, rfl⟩ : ∃ n', fu2 = n' + 1 := ⟨fu2 - 1, by omega⟩
          have hpc : p < c := by omega
          have ib2 : ib (nI (r.length + 1)) 7 = true := ib_nI (by omega) (by decide)
          have cl2 : (nI (r.length + 1)).toNatClampNeg = r.length + 1 := nI_clamp (by omega)
          have ek : luK c L P0 (luV c L P0 x n) r (m + 1) p = (if psT c L P0 r (psT c L P0 r 14 * c + p) = 0 then 0 else 60 / fmT c L P0 r * luV c L P0 x n (p :: r)) + luK c L P0 (luV c L P0 x n) r m (p + 1) := rfl
          rw [ek]
          by_cases hz : psT c L P0 r (psT c L P0 r 14 * c + p) = 0
          · obtain ⟨u1, k1, g1⟩ := ihm (p + 1) fu2 a u (by omega) (by omega) h
            rw [if_pos hz, Nat.zero_add (luK c L P0 (luV c L P0 x n) r m (p + 1))]
            refine ⟨u1, ?_, g1⟩
            unfold L_X12_luckOf_112
            rw [h.2.2.1, if_neg (nI_ge (by omega) (by omega)), m_refN hB h hpc, bc_eq, bd_eq, if_pos hz, if_neg (show ¬ (0 : Int32) ≤ -2 by decide)]
            unfold J_X12_luckOf_j185_2
            rw [bd_eq, nI_1, k1]
          · obtain ⟨u2, u3, l1, l2, g3, T3, kr, kf⟩ := m_childN (F := FL) (T := []) hB h (by omega) hpc (by decide) (by decide) (by decide)
            obtain ⟨u4, e4, g4⟩ := ih fu (p :: r) u3 (by omega) (by show r.length + 1 + n = D; omega) T3
            rw [show (p :: r).length = r.length + 1 from rfl] at e4
            have g34 : gr FL [] r.length u u4 := gr_tr g3 (gr_up g4)
            obtain ⟨u5, e5, g5⟩ := ihm (p + 1) fu2 (a + 60 / fmT c L P0 r * luV c L P0 x n (p :: r)) u4 (by omega) (by omega) (tdN_gr h g34 (by decide) (by decide))
            rw [if_neg hz, ← Nat.add_assoc]
            refine ⟨u5, ?_, gr_tr g34 g5⟩
            unfold L_X12_luckOf_112
            rw [h.2.2.1, if_neg (nI_ge (by omega) (by omega)), m_refN hB h hpc, bc_eq, bd_eq, if_neg hz, if_pos (show (0 : Int32) ≤ 0 by decide), nI_1, if_pos ib2, bd_eq, cl2, l1, bv_eq, if_pos ib2, bd_eq, l2, bv_eq, hml, if_pos hmz, e4, bc_eq, show (60 : Int64) = lN 60 from rfl, lN_div (by omega) (by omega), lN_mul, lN_add, bd_eq]
            unfold J_X12_luckOf_j185_2
            rw [bd_eq, nI_1, e5]
      have hfu : c < FU := by unfold FU; omega
      obtain ⟨u1, k1, k2⟩ := kids c 0 FU 0 u rfl hfu h
      rw [nI_0, Nat.zero_add] at k1
      exact ⟨u1, k1, k2⟩
end ML2
