/-! starves; moves by THE RULE on the position laid aside: when, ends, fullest -/
section AH
variable {w w0 : Wd} {c L : Nat} {P P0 : Nat → Nat} {hs : List (Nat → Nat)} {tx rl : List Nat} {cd : List Int32} {V : (Nat → Int32) → Int32} {kp : Nat → Option (Nat → Nat)} {cl si : List (Int32 × Int32)} {rw : List Int64}
def aC (w0 w : Wd) (c : Nat) (P : Nat → Nat) : Prop := qC EC0 [] w0 w ∧ isAt w 6 c P
def aM (u0 u : Wd) (P : Nat → Nat) : Prop := qM FM0 [] u0 u ∧ isM u 129 P
theorem aC_start (m : CR w c L P hs tx cd kp cl si rw) : ∃ w1, D_X5_take 6 0 w = some w1 ∧ aC w w1 c P := by
  obtain ⟨c6, P6, z6⟩ := m.2.2.1 6 (by decide)
  exact ⟨pW w 6 c P, d_take (by decide) (by decide) (by decide) z6 m.1, qC_at (r := 6) (by decide) pW_but (by decide) (by decide) ⟨_, _, pW_at _ _ _ _⟩, pW_at _ _ _ _⟩
theorem JR_q {o : Nat} (hj : JR w0 o V) (h : qC EC0 [] w0 w) (h0 : o ∉ EC0) (h1 : o + 1 ∉ EC0) : JR w o V := by
  unfold JR at hj ⊢
  rw [h.1.1 o h0, h.1.1 (o + 1) h1]
  exact hj
theorem aC_play (m : CR w0 c L P0 hs tx cd kp cl si rw) (okr : okRl rl cd V) (hB : okB c L (P 14) P) (h : aC w0 w c P) : ∃ w1, D_X4_play 6 106 (w.1 75 18) w = some (if overS c P = true then 0 else 1, w1) ∧ aC w0 w1 c (rlS c L P V) := by
  have hj : JR w 106 V := JR_q (JR_of m.2.2.2.2.2.2.2.2.2.1 okr) h.1 (by decide) (by decide)
  obtain ⟨w1, e1, a1, b1, at1⟩ := c_play (q := 6) (o := 106) (by decide) (by decide) (by decide) hB h.2 (h.1.2 m.2.2.1 51 (by decide)) hj
  refine ⟨w1, ?_, qC_tr h.1 (qC_at2 (r := 6) (s := 51) (by decide) (by decide) b1 (by decide) (by decide) ⟨_, _, a1⟩ at1), a1⟩
  rw [h.1.1.1 75 (by decide), m.2.1, e1]
theorem aM_start {u : Wd} (n : MR u c L P hs tx rl kp cl si rw) : ∃ u1, D_X12_lay 120 129 0 u = some u1 ∧ aM u u1 P := by
  obtain ⟨u1, g1, i1, s1⟩ := m_lay (a := 120) (b := 129) ln_120 (by decide) (by decide) n.2.2.1 (arrM_of n)
  exact ⟨u1, g1, qM_sub (qM_at (r := 129) s1 (by decide) (by decide) (by decide) ⟨_, i1⟩) (by decide) (by decide), i1⟩
theorem ruM_q {u0 u : Wd} (h : ruM u0 V) (q : qM FM0 [] u0 u) : ruM u V := ruM_same h q.1 (by decide) (by decide) (by decide) (by decide) (by decide)
theorem ruM_of {u : Wd} (n : MR u c L P hs tx rl kp cl si rw) (okr : okRl rl cd V) : ruM u V := ⟨rl, cd, n.2.2.2.2.2.2.2.2.2.1, okr⟩
theorem aM_go {u0 u : Wd} (n : MR u0 c L P0 hs tx rl kp cl si rw) (okr : okRl rl cd V) (hB : okB c L (P 14) P) (h : aM u0 u P) : ∃ u1, D_X12_goRule 129 u = some (if overS c P = true then 0 else 1, u1) ∧ aM u0 u1 (rlS c L P V) := by
  obtain ⟨u1, g1, s1, i1, i2⟩ := m_goRule (a := 129) (V := V) (by decide) (by decide) (by decide) rfl hB h.2 (h.1.2 (arrM_of n) 130 (by decide)) ((h.1.1.2.1 1 (by decide)).trans n.1) ((h.1.1.2.1 2 (by decide)).trans n.2.1) (ruM_q (ruM_of n okr) h.1)
  exact ⟨u1, g1, qM_tr h.1 (qM_sub (qM_at2 (r := 129) (s := 130) s1 (by decide) (by decide) (by decide) ⟨_, i1⟩ i2) (by decide) (by simp)), i1⟩
theorem aC_over (hB : okB c L (P 14) P) (h : aC w0 w c P) : D_X5_isOver 6 w = some (if overS c P = true then 1 else 0, w) := by
  rw [d_isOver h.2 hB.2.1 hB.2.2.2.1 hB.2.2.2.2.2]
  by_cases e : overS c P = true
  · rw [if_pos e, if_pos (over_iff.mpr e)]
  · rw [if_neg e, if_neg (fun z => e (over_iff.mp z))]
theorem m_over {u : Wd} {a : Nat} (hla : ln a = 16) (hi : isM u a P) (hc : u.1 119 1 = nI c) (hB : okB c L (P 14) P) : D_X12_isOver a u = some (if overS c P = true then 1 else 0, u) := by
  rw [d_isOverM hla hi.1 hc hB.2.1 hB.2.2.2.1 hB.2.2.2.2.2]
  by_cases e : overS c P = true
  · rw [if_pos e, if_pos (over_iff.mpr e)]
  · rw [if_neg e, if_neg (fun z => e (over_iff.mp z))]
theorem aM_over {u0 u : Wd} (n : MR u0 c L P0 hs tx rl kp cl si rw) (hB : okB c L (P 14) P) (h : aM u0 u P) : D_X12_isOver 129 u = some (if overS c P = true then 1 else 0, u) := m_over rfl h.2 ((h.1.1.2.1 1 (by decide)).trans n.1) hB
/-- THE RULE makes n MOVES, or fewer when it is OVER -/
def plN (c L : Nat) (V : (Nat → Int32) → Int32) : Nat → (Nat → Nat) → Nat × (Nat → Nat)
  | 0, P => (0, P)
  | n + 1, P => if overS c P = true then (0, P) else ((plN c L V n (rlS c L P V)).1 + 1, (plN c L V n (rlS c L P V)).2)
theorem plN_ok : ∀ (n : Nat) (P : Nat → Nat), okB c L (P 14) P → okB c L ((plN c L V n P).2 14) (plN c L V n P).2 ∧ tot (plN c L V n P).2 = tot P ∧ (plN c L V n P).1 ≤ n ∧ (0 < n → (plN c L V n P).1 = 0 → overS c P = true) := by
  intro n
  induction n with
  | zero => intro P hB; exact ⟨hB, rfl, Nat.le_refl _, fun h => absurd h (by omega)⟩
  | succ n ih =>
    intro P hB
    unfold plN
    by_cases ho : overS c P = true
    · rw [if_pos ho]
      exact ⟨hB, rfl, Nat.zero_le _, fun _ _ => ho⟩
    · rw [if_neg ho]
      obtain ⟨a, b⟩ := rlS_ok (V := V) hB
      obtain ⟨i1, i2, i3, -⟩ := ih _ a
      exact ⟨i1, i2.trans b, by simp only; omega, fun _ h => by simp only at h; omega⟩
theorem plN_over : ∀ (n : Nat) (P : Nat → Nat), overS c P = true → plN c L V n P = (0, P) := by
  intro n P h
  cases n with
  | zero => rfl
  | succ n => unfold plN; rw [if_pos h]
theorem plN_rl : ∀ (n : Nat) (P : Nat → Nat), (plN c L V (n + 1) P).2 = (plN c L V n (rlS c L P V)).2 := by
  intro n P
  by_cases ho : overS c P = true
  · have : rlS c L P V = P := by unfold rlS; rw [if_pos ho]
    rw [this, plN_over _ _ ho, plN_over _ _ ho]
  · show (if overS c P = true then (0, P) else ((plN c L V n (rlS c L P V)).1 + 1, (plN c L V n (rlS c L P V)).2)).2 = _
    rw [if_neg ho]
theorem aC_ploop {k : Int32 → Wd → Option (Int32 × Wd)} (m : CR w0 c L P0 hs tx cd kp cl si rw) (okr : okRl rl cd V) : ∀ (n fu j : Nat) (P : Nat → Nat) (w : Wd), n < fu → j + n < 2 ^ 30 → okB c L (P 14) P → aC w0 w c P → ∃ w1, L_X11_playOn_2 6 (nI (j + n)) k fu (nI j) w = k (nI (j + (plN c L V n P).1)) w1 ∧ aC w0 w1 c (plN c L V n P).2 := by
  intro n
  induction n with
  | zero =>
    intro fu j P w hf hj hB h
    obtain ⟨fu, rfl⟩ : ∃ n', fu = n' + 1 := ⟨fu - 1, by omega⟩
    refine ⟨w, ?_, h⟩
    unfold L_X11_playOn_2
    rw [Nat.add_zero, if_pos (nI_le (Nat.le_refl j) (by omega))]
    rfl
  | succ n ih =>
    intro fu j P w hf hj hB h
    obtain ⟨fu, rfl⟩ : ∃ n', fu = n' + 1 := ⟨fu - 1, by omega⟩
    obtain ⟨w1, e1, a1⟩ := aC_play m okr hB h
    unfold L_X11_playOn_2 plN
    rw [if_neg (nI_ge (by omega) (by omega)), e1, bc_eq]
    by_cases ho : overS c P = true
    · rw [if_pos ho, if_pos rfl, if_pos ho]
      have : rlS c L P V = P := by unfold rlS; rw [if_pos ho]
      rw [this] at a1
      exact ⟨w1, rfl, a1⟩
    · rw [if_neg ho, if_neg (by decide), if_neg ho, bd_eq, nI_1]
      obtain ⟨w2, e2, a2⟩ := ih fu (j + 1) (rlS c L P V) w1 (by omega) (by omega) (rlS_ok hB).1 a1
      rw [show j + 1 + n = j + (n + 1) by omega] at e2
      exact ⟨w2, by rw [e2, show j + 1 + (plN c L V n (rlS c L P V)).1 = j + ((plN c L V n (rlS c L P V)).1 + 1) by omega], a2⟩
theorem aC_playOn (m : CR w0 c L P0 hs tx cd kp cl si rw) (okr : okRl rl cd V) {n : Nat} (hn : n < 1000) (hB : okB c L (P 14) P) (h : aC w0 w c P) : ∃ w1, D_X11_playOn 6 (nI n) w = some (nI (plN c L V n P).1, w1) ∧ aC w0 w1 c (plN c L V n P).2 := by
  obtain ⟨w1, e1, a1⟩ := aC_ploop (k := J_X11_playOn_x32_1) m okr n FU 0 P w (by unfold FU; omega) (by omega) hB h
  rw [Nat.zero_add, Nat.zero_add, nI_0] at e1
  exact ⟨w1, e1, a1⟩
end AH
section PT
variable {w : Wd} {c : Nat}
theorem d_hasPit {q n : Nat} (hc : w.1 q 2 = nI c) (h6 : c ≤ 6) {i : Nat} (hi : i < 2 * c) : D_X5_hasPit q (nI i) w = some (1, w) := by
  unfold D_X5_hasPit
  rw [if_neg (nI_pos (by omega)), hc, nI_2', pk_mul, if_neg (nI_ge hi (by omega))]
theorem d_hasPit_no {q : Nat} {x : Int32} (hc : w.1 q 2 = nI c) (hx : x < 0 ∨ nI (2 * c) ≤ x) : D_X5_hasPit q x w = some (0, w) := by
  unfold D_X5_hasPit
  rw [hc, nI_2', pk_mul]
  by_cases h : x < 0
  · rw [if_pos h]
  · rw [if_neg h, if_pos (hx.resolve_left h)]
theorem d_in0_no {n : Nat} {x : Int32} (hn : 0 < n) (hn2 : n < 2 ^ 30) (hx : x < 0 ∨ nI n ≤ x) : D_X12_in x 0 (nI n - 1) w = some (0, w) := by
  unfold D_X12_in
  by_cases h : x < 0
  · rw [if_pos h]
  · obtain ⟨j, hj, rfl⟩ := nI_of h
    have : n ≤ j := (nI_leI (by omega) hj).mp (hx.resolve_left h)
    rw [if_neg h, nI_1', pk_sub (by omega), if_pos (nI_lt (by omega) hj)]
theorem d_in0 {n i : Nat} (hi : i < n) (hn2 : n < 2 ^ 30) : D_X12_in (nI i) 0 (nI n - 1) w = some (1, w) := by
  rw [nI_1', pk_sub (by omega), nI_0', d_in (by omega) (by omega) (by omega), if_pos (by omega)]
  rfl
end PT
section QN
theorem at_P {w : Wd} {q c : Nat} {P : Nat → Nat} (h : isAt w q c P) {i : Nat} (hi : i < 2) : w.1 (q + 2) i = nI (P (12 + i)) := by rw [h.2.2, tP_at hi]
theorem q_when (x : Int32) : Quest (D_X11_when x) (D_X12_when x) := by
  intro w c L P hs tx rl cd V kp cl si rw B m ok okr
  have hB := okB_of ok
  have h6 := hB.2.1
  have h2 := hB.1
  rcases arg_cases (2 * c) (by omega) x with hx | ⟨i, hi, rfl⟩
  · refine ⟨-1, rw, okS_rw ok, ⟨w, ?_, m, onC_rf w⟩, fun u n => ⟨_, ?_, (MR_7 n).1, (MR_7 n).2⟩⟩
    · unfold D_X11_when
      rw [d_hasPit_no (isAt_c m.1) hx, bc_eq, if_pos rfl]
    · unfold D_X12_when
      rw [bd_eq, d_pits12 (MR_7 n).1.1, bc_eq, d_in0_no (by omega) (by omega) hx, bc_eq, if_pos rfl]
  · have key : ∀ (k j fu : Nat) (Q : Nat → Nat), k + j = 61 → k < fu → okB c L (Q 14) Q → ∃ r rw', rw'.length ≤ 20 ∧ (∀ w', aC w w' c Q → ∃ w1, L_X11_when_26 (nI i) J_X11_when_x44_1 J_X11_when_x95_2 J_X11_when_x104_3 fu (nI j) w' = some (r, w1) ∧ CR w1 c L P hs tx cd kp cl si rw' ∧ onC w w1) ∧ ∀ u u', MR u c L P hs tx rl kp cl si rw → aM u u' Q → ∃ u1, L_X12_when_35 (nI i) J_X12_when_x50_1 J_X12_when_x92_2 J_X12_when_x101_3 fu (nI j) u' = some (r, u1) ∧ MR u1 c L P hs tx rl kp cl si rw' ∧ onM u u1 := by
      intro k
      induction k with
      | zero =>
        intro j fu Q hj hf hQ
        obtain ⟨fu, rfl⟩ : ∃ n', fu = n' + 1 := ⟨fu - 1, by omega⟩
        have : j = 61 := by omega
        subst this
        refine ⟨-2, rw, okS_rw ok, fun w' h => ⟨w', ?_, CR_q0 m h.1⟩, fun u u' n h => ⟨u', ?_, MR_q0 n h.1⟩⟩
        · unfold L_X11_when_26
          rw [if_pos (by decide)]
          rfl
        · unfold L_X12_when_35
          rw [if_pos (by decide)]
          rfl
      | succ k ih =>
        intro j fu Q hj hf hQ
        obtain ⟨fu, rfl⟩ : ∃ n', fu = n' + 1 := ⟨fu - 1, by omega⟩
        have hlt := tot_lt hQ.2.2.2.2.2 i (by omega)
        have hz : nI (Q i) = 0 ↔ Q i = 0 := nI_z hlt
        have hj60 : ¬ (60 : Int32) < nI j := by
          rw [show (60 : Int32) = nI 60 from by decide +kernel]
          exact nI_nlt (by omega) (by omega)
        have i12 : ib (nI i) 12 = true := ib_nI (by omega) (by omega)
        have i16 : ib (nI i) 16 = true := ib_nI (by omega) (by omega)
        by_cases hq : Q i = 0
        · refine ⟨nI j, [(nI (Q 12)).toInt64, (nI (Q 13)).toInt64], by simp, fun w' h => ?_, fun u u' n h => ?_⟩
          · obtain ⟨w2, t1, t2, t3⟩ := d_tell2 w' (nI (Q 12)).toInt64 (nI (Q 13)).toInt64
            obtain ⟨k1, k2⟩ := CR_q m (qC_tr (qC_up h.1) (qC_hi t3 (by decide) (by decide) (by decide))) t2
            refine ⟨w2, ?_, k1, k2⟩
            unfold L_X11_when_26
            rw [if_neg hj60, if_pos i12, nI_clamp (by omega), isAt_s h.2 i (by omega), if_pos (hz.mpr hq)]
            unfold J_X11_when_x44_1
            rw [if_pos (by decide), if_pos (by decide), show (0 : Int32).toNatClampNeg = 0 from by decide, show (1 : Int32).toNatClampNeg = 1 from by decide, at_P h.2 (by decide), at_P h.2 (by decide), t1, bv_eq]
          · obtain ⟨u2, g1, r1, s1⟩ := d_tellM (row0M u') (by decide) (nI (Q 12)).toInt64
            obtain ⟨u3, g2, r2, s2⟩ := d_tellM r1 (by simp) (nI (Q 13)).toInt64
            obtain ⟨k1, k2⟩ := MR_q n (qM_tr (qM_up h.1) (qM_tr (qM_f (k := 6) (v := 0) (by decide)) (qM_tr (qM_tell s1) (qM_tell s2)))) r2
            refine ⟨u3, ?_, k1, k2⟩
            unfold L_X12_when_35
            rw [if_neg hj60, if_pos i16, nI_clamp (by omega), h.2.1, eP_at, if_pos (hz.mpr hq)]
            unfold J_X12_when_x50_1
            rw [bd_eq, if_pos (by decide), wI_r (by decide), h.2.1, show (12 : Int32).toNatClampNeg = 12 from by decide, eP_at, g1, bv_eq, if_pos (by decide), s1.1.1 129 (by decide), wI_r (by decide), h.2.1, show (13 : Int32).toNatClampNeg = 13 from by decide, eP_at, g2, bv_eq]
        · by_cases ho : overS c Q = true
          · refine ⟨-2, rw, okS_rw ok, fun w' h => ?_, fun u u' n h => ?_⟩
            · obtain ⟨w1, e1, a1⟩ := aC_play m okr hQ h
              obtain ⟨k1, k2⟩ := CR_q0 m a1.1
              refine ⟨w1, ?_, k1, k2⟩
              unfold L_X11_when_26
              rw [if_neg hj60, if_pos i12, nI_clamp (by omega), isAt_s h.2 i (by omega), if_neg (fun z => hq (hz.mp z)), e1, bc_eq, if_pos (by rw [if_pos ho])]
              rfl
            · obtain ⟨u1, g1, a1⟩ := aM_go n okr hQ h
              obtain ⟨k1, k2⟩ := MR_q0 n a1.1
              refine ⟨u1, ?_, k1, k2⟩
              unfold L_X12_when_35
              rw [if_neg hj60, if_pos i16, nI_clamp (by omega), h.2.1, eP_at, if_neg (fun z => hq (hz.mp z)), g1, bc_eq, if_pos (by rw [if_pos ho])]
              rfl
          · obtain ⟨r, rw', hr, hC, hM⟩ := ih (j + 1) fu (rlS c L Q V) (by omega) (by omega) (rlS_ok hQ).1
            refine ⟨r, rw', hr, fun w' h => ?_, fun u u' n h => ?_⟩
            · obtain ⟨w1, e1, a1⟩ := aC_play m okr hQ h
              unfold L_X11_when_26
              rw [if_neg hj60, if_pos i12, nI_clamp (by omega), isAt_s h.2 i (by omega), if_neg (fun z => hq (hz.mp z)), e1, bc_eq, if_neg (by rw [if_neg ho]; decide), bd_eq, nI_1]
              exact hC w1 a1
            · obtain ⟨u1, g1, a1⟩ := aM_go n okr hQ h
              unfold L_X12_when_35
              rw [if_neg hj60, if_pos i16, nI_clamp (by omega), h.2.1, eP_at, if_neg (fun z => hq (hz.mp z)), g1, bc_eq, if_neg (by rw [if_neg ho]; decide), bd_eq, nI_1]
              exact hM u u1 n a1
    obtain ⟨r, rw', hr, hC, hM⟩ := key 61 0 FU P (by omega) (by unfold FU; omega) hB
    refine ⟨r, rw', hr, ?_, fun u n => ?_⟩
    · obtain ⟨w1, e1, a1⟩ := aC_start m
      obtain ⟨w2, e2, k1, k2⟩ := hC w1 a1
      refine ⟨w2, ?_, k1, k2⟩
      unfold D_X11_when
      rw [d_hasPit (n := 0) (isAt_c m.1) h6 hi, bc_eq, if_neg (by decide), e1, bv_eq, ← nI_0, e2]
    · obtain ⟨n', on'⟩ := MR_7 n
      obtain ⟨u1, g1, a1⟩ := aM_start n'
      obtain ⟨u2, g2, k1, k2⟩ := hM _ u1 n' a1
      refine ⟨u2, ?_, k1, onM_tr on' k2⟩
      unfold D_X12_when
      rw [bd_eq, d_pits12 n'.1, bc_eq, d_in0 hi (by omega), bc_eq, if_neg (by decide), g1, bv_eq, ← nI_0, g2]
end QN
