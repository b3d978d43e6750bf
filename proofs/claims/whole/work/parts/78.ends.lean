/-! starves, ends, fullest -/
section QS
theorem nar (i : Nat) (h : i < 6) : (1 : Int32) <<< (nI i &&& 31) = nI (2 ^ i) := by
  rcases (by omega : i = 0 ∨ i = 1 ∨ i = 2 ∨ i = 3 ∨ i = 4 ∨ i = 5) with e | e | e | e | e | e <;> subst e <;> decide +kernel
theorem q_starves : Quest D_X11_starves D_X12_starves := by
  intro w c L P hs tx rl cd V kp cl si rw B m ok okr
  have hB := okB_of ok
  have h6 := hB.2.1
  have key : ∀ (k p fu : Nat) (x : Int32), k + p = c → k < fu → ∃ r rw', rw'.length ≤ 20 ∧ (∀ w', qC EC0 [] w w' → ∃ w1, L_X11_starves_4 J_X11_starves_x49_2 fu x (nI p) w' = some (r, w1) ∧ CR w1 c L P hs tx cd kp cl si rw' ∧ onC w w1) ∧ ∀ u u', MR u c L P hs tx rl kp cl si rw → qM FM0 [] u u' → ∃ u1, L_X12_starves_9 J_X12_starves_x80_3 fu x (nI p) u' = some (r, u1) ∧ MR u1 c L P hs tx rl kp cl si rw' ∧ onM u u1 := by
    intro k
    induction k with
    | zero =>
      intro p fu x hp hf
      obtain ⟨fu, rfl⟩ : ∃ n', fu = n' + 1 := ⟨fu - 1, by omega⟩
      have hpc : nI c ≤ nI p := nI_le (by omega) (by omega)
      obtain ⟨b, hb⟩ : ∃ b, ∀ w : Wd, D_J6_bitCount_0f7a4 x w = some (b, w) := ⟨_, fun w => rfl⟩
      refine ⟨b, [x.toInt64], by simp, fun w' h => ?_, fun u u' n h => ?_⟩
      · obtain ⟨w2, t1, t2, t3⟩ := d_tell1 w' x.toInt64
        obtain ⟨k1, k2⟩ := CR_q m (qC_tr (qC_up h) (qC_hi t3 (by decide) (by decide) (by decide))) t2
        refine ⟨w2, ?_, k1, k2⟩
        unfold L_X11_starves_4
        rw [isAt_c (qC_now0 m.1 h), if_pos hpc]
        unfold J_X11_starves_x49_2
        rw [t1, bv_eq, hb, bc_eq]
      · obtain ⟨u2, g1, r1, s1⟩ := d_tellM (row0M u') (by decide) x.toInt64
        obtain ⟨k1, k2⟩ := MR_q n (qM_tr (qM_up h) (qM_tr (qM_f (k := 6) (v := 0) (by decide)) (qM_tell s1))) r1
        refine ⟨u2, ?_, k1, k2⟩
        unfold L_X12_starves_9
        rw [h.1.2.1 1 (by decide), n.1, if_pos hpc]
        unfold J_X12_starves_x80_3
        rw [bd_eq, g1, bv_eq, hb, bc_eq]
    | succ k ih =>
      intro p fu x hp hf
      obtain ⟨fu, rfl⟩ : ∃ n', fu = n' + 1 := ⟨fu - 1, by omega⟩
      have hpc : ¬ nI c ≤ nI p := nI_ge (by omega) (by omega)
      by_cases hne : P (P 14 * c + p) = 0
      · obtain ⟨r, rw', hr, hC, hM⟩ := ih (p + 1) fu x (by omega) (by omega)
        refine ⟨r, rw', hr, fun w' h => ?_, fun u u' n h => ?_⟩
        · obtain ⟨w1, e1, q1⟩ := (c_tryMove (qC_now0 m.1 h) (h.2 m.2.2.1) hB (p := p) (by omega)).1 hne
          unfold L_X11_starves_4
          rw [isAt_c (qC_now0 m.1 h), if_neg hpc, h.1.1 75 (by decide), m.2.1, e1, bc_eq, bd_eq, if_pos rfl]
          unfold J_X11_starves_j43_1
          rw [bd_eq, nI_1]
          exact hC w1 (qC_tr h q1)
        · unfold L_X12_starves_9
          have c1 : u'.1 119 1 = nI c := (h.1.2.1 1 (by decide)).trans n.1
          rw [c1, if_neg hpc, d_refuses ln_120 (qM_now0 n.2.2.1 h).1 c1 hB.1 h6 hB.2.2.2.1 hB.2.2.2.2.2 (by omega), bc_eq, bd_eq]
          unfold rfS
          rw [if_pos hne, if_neg (by decide)]
          unfold J_X12_starves_j74_2
          rw [bd_eq, nI_1]
          exact hM u u' n h
      · have hB' := okB_mv hB (p := p) (by omega)
        obtain ⟨r, rw', hr, hC, hM⟩ := ih (p + 1) fu (if overS c (mvP c L (P 14) p P) = true then x ||| (1 <<< (nI p &&& 31)) else x) (by omega) (by omega)
        refine ⟨r, rw', hr, fun w' h => ?_, fun u u' n h => ?_⟩
        · obtain ⟨w1, e1, q1, a1, -⟩ := (c_tryMove (qC_now0 m.1 h) (h.2 m.2.2.1) hB (p := p) (by omega)).2 hne
          obtain ⟨w2, e2, k2⟩ := hC w1 (qC_tr h q1)
          refine ⟨w2, ?_, k2⟩
          unfold L_X11_starves_4
          rw [isAt_c (qC_now0 m.1 h), if_neg hpc, h.1.1 75 (by decide), m.2.1, e1, bc_eq, bd_eq, if_neg (by decide), aC_over (w0 := w) hB' ⟨qC_tr h q1, a1⟩, bc_eq]
          unfold J_X11_starves_j43_1
          rw [bd_eq, nI_1]
          by_cases ho : overS c (mvP c L (P 14) p P) = true
          · rw [if_pos ho] at e2 ⊢
            rw [if_neg (by decide), bd_eq, bd_eq]
            exact e2
          · rw [if_neg ho] at e2 ⊢
            rw [if_pos rfl]
            exact e2
        · have c1 : u'.1 119 1 = nI c := (h.1.2.1 1 (by decide)).trans n.1
          obtain ⟨u1, u2, g1, g2, i2, s2, p2, -, -, -⟩ := m_try (a := 120) (b := 129) (p := p) ln_120 (by decide) (by decide) (qM_now0 n.2.2.1 h) (h.2 (arrM_of n)) c1 ((h.1.2.1 2 (by decide)).trans n.2.1) hB (by omega)
          obtain ⟨u3, e2, k2⟩ := hM u u2 n (qM_tr h p2)
          refine ⟨u3, ?_, k2⟩
          unfold L_X12_starves_9
          rw [c1, if_neg hpc, d_refuses ln_120 (qM_now0 n.2.2.1 h).1 c1 hB.1 h6 hB.2.2.2.1 hB.2.2.2.2.2 (by omega), bc_eq, bd_eq]
          unfold rfS
          rw [if_neg hne, if_pos (by decide), g1, bv_eq, g2, bv_eq, m_over rfl i2 (((qM_tr h p2).1.2.1 1 (by decide)).trans n.1) hB', bc_eq, bd_eq]
          unfold J_X12_starves_j72_1 J_X12_starves_j74_2
          by_cases ho : overS c (mvP c L (P 14) p P) = true
          · rw [if_pos ho] at e2 ⊢
            rw [if_neg (by decide), bd_eq, bd_eq, nI_1]
            exact e2
          · rw [if_neg ho] at e2 ⊢
            rw [if_pos rfl, bd_eq, bd_eq, nI_1, Int32.or_zero]
            exact e2
  obtain ⟨r, rw', hr, hC, hM⟩ := key c 0 FU 0 (by omega) (by unfold FU; omega)
  refine ⟨r, rw', hr, ?_, fun u n => ?_⟩
  · obtain ⟨w1, e1, k1⟩ := hC w (qC_rf w)
    exact ⟨w1, by rw [nI_0] at e1; exact e1, k1⟩
  · obtain ⟨n', on'⟩ := MR_7 n
    obtain ⟨u1, g1, k1, k2⟩ := hM _ _ n' (qM_rf _)
    exact ⟨u1, by rw [nI_0] at g1; exact g1, k1, onM_tr on' k2⟩
theorem d_owned {w : Wd} {q c s : Nat} {P : Nat → Nat} (h : isAt w q c P) (h6 : c ≤ 6) (hs : s ≤ 1) : D_X5_ownedBy q (nI s) w = some (nI (P (12 + s)) + nI (sumS P (s * c) c), w) := by
  unfold D_X5_ownedBy
  rw [if_pos (ib_nI (by omega) (by omega)), nI_clamp (by omega), at_P h (by omega), d_inPitsOf (isAt_c h) (isAt_s h) h6 hs, bc_eq]
theorem q_ends : Quest D_X11_ends D_X12_ends := by
  intro w c L P hs tx rl cd V kp cl si rw B m ok okr
  have hB := okB_of ok
  have h6 := hB.2.1
  obtain ⟨b1, b2, b3, -⟩ := plN_ok (V := V) 99 P hB
  have hM : ∀ (k j fu : Nat) (Q : Nat → Nat) (u u' : Wd), k + j = 99 → k + 1 < fu → okB c L (Q 14) Q → MR u c L P hs tx rl kp cl si rw → aM u u' Q → (overS c (plN c L V k Q).2 = true → ∃ u1, aM u u1 (plN c L V k Q).2 ∧ L_X12_ends_19 J_X12_ends_x36_1 J_X12_ends_x113_2 fu (nI j) u' = J_X12_ends_x36_1 (nI (j + (plN c L V k Q).1)) u1) ∧ (¬ overS c (plN c L V k Q).2 = true → ∃ u1, qM FM0 [] u u1 ∧ L_X12_ends_19 J_X12_ends_x36_1 J_X12_ends_x113_2 fu (nI j) u' = some (-2, u1)) := by
    intro k
    induction k with
    | zero =>
      intro j fu Q u u' hj hf hQ n h
      obtain ⟨fu, rfl⟩ : ∃ n', fu = n' + 1 + 1 := ⟨fu - 2, by omega⟩
      have : j = 99 := by omega
      subst this
      refine ⟨fun ho => ⟨u', h, ?_⟩, fun ho => ?_⟩
      · have ho' : overS c Q = true := ho
        unfold L_X12_ends_19
        rw [if_neg (by decide), aM_over n hQ h, bc_eq, if_pos ho', if_neg (by decide)]
        rfl
      · have ho' : ¬ overS c Q = true := ho
        obtain ⟨u1, g1, a1⟩ := aM_go n okr hQ h
        refine ⟨u1, a1.1, ?_⟩
        unfold L_X12_ends_19
        rw [if_neg (by decide), aM_over n hQ h, bc_eq, if_neg ho', if_pos rfl, g1, bc_eq, bd_eq]
        unfold L_X12_ends_19
        rw [if_pos (by decide)]
        rfl
    | succ k ih =>
      intro j fu Q u u' hj hf hQ n h
      obtain ⟨fu, rfl⟩ : ∃ n', fu = n' + 1 := ⟨fu - 1, by omega⟩
      have hj99 : ¬ (99 : Int32) < nI j := by
        rw [show (99 : Int32) = nI 99 from by decide +kernel]
        exact nI_nlt (by omega) (by omega)
      by_cases hq : overS c Q = true
      · rw [plN_over _ _ hq]
        refine ⟨fun _ => ⟨u', h, ?_⟩, fun z => absurd hq z⟩
        unfold L_X12_ends_19
        rw [if_neg hj99, aM_over n hQ h, bc_eq, if_pos hq, if_neg (by decide)]
        rfl
      · obtain ⟨u1, g1, a1⟩ := aM_go n okr hQ h
        obtain ⟨i1, i2⟩ := ih (j + 1) fu (rlS c L Q V) u u1 (by omega) (by omega) (rlS_ok hQ).1 n a1
        have e : L_X12_ends_19 J_X12_ends_x36_1 J_X12_ends_x113_2 (fu + 1) (nI j) u' = L_X12_ends_19 J_X12_ends_x36_1 J_X12_ends_x113_2 fu (nI (j + 1)) u1 := by
          generalize hR : L_X12_ends_19 J_X12_ends_x36_1 J_X12_ends_x113_2 fu (nI (j + 1)) u1 = R
          unfold L_X12_ends_19
          rw [if_neg hj99, aM_over n hQ h, bc_eq, if_neg hq, if_pos rfl, g1, bc_eq, bd_eq, nI_1]
          exact hR
        have ep : plN c L V (k + 1) Q = ((plN c L V k (rlS c L Q V)).1 + 1, (plN c L V k (rlS c L Q V)).2) := by
          show (if overS c Q = true then (0, Q) else _) = _
          rw [if_neg hq]
        rw [ep, e]
        refine ⟨fun ho => ?_, i2⟩
        obtain ⟨u2, a2, e2⟩ := i1 ho
        refine ⟨u2, a2, ?_⟩
        rw [e2]
        show _ = J_X12_ends_x36_1 (nI (j + ((plN c L V k (rlS c L Q V)).1 + 1))) u2
        rw [show j + 1 + (plN c L V k (rlS c L Q V)).1 = j + ((plN c L V k (rlS c L Q V)).1 + 1) by omega]
  obtain ⟨w1, e1, a1⟩ := aC_start m
  obtain ⟨w2, e2, a2⟩ := aC_playOn m okr (n := 99) (by decide) hB a1
  have hd : D_X11_ends w = if (if overS c (plN c L V 99 P).2 = true then (1 : Int32) else 0) = 0 then some (-2, w2) else (bc (D_X5_ownedBy 6 0 w2) fun x7 w6 => bc (D_X5_ownedBy 6 1 w6) fun x9 w8 => bv (D_X3_tell_ x7.toInt64 x9.toInt64 w8) fun w10 => some (nI (plN c L V 99 P).1, w10)) := by
    unfold D_X11_ends
    rw [e1, bv_eq, show (99 : Int32) = nI 99 from by decide +kernel, e2, bc_eq, aC_over b1 a2, bc_eq]
  have hu : ∀ u, MR u c L P hs tx rl kp cl si rw → ∃ u1, aM (wI u 119 7 0) u1 P ∧ D_X12_ends u = L_X12_ends_19 J_X12_ends_x36_1 J_X12_ends_x113_2 FU (nI 0) u1 := by
    intro u n
    obtain ⟨n', on'⟩ := MR_7 n
    obtain ⟨u1, g1, a1⟩ := aM_start n'
    refine ⟨u1, a1, ?_⟩
    unfold D_X12_ends
    rw [bd_eq, g1, bv_eq, nI_0]
  by_cases ho : overS c (plN c L V 99 P).2 = true
  · generalize hQ : (plN c L V 99 P).2 = Q at *
    generalize hz : (plN c L V 99 P).1 = z at *
    have hso : ∀ s, s ≤ 1 → Q (12 + s) < 2 ^ 29 ∧ sumS Q (s * c) c < 2 ^ 29 := by
      intro s hs1
      have t1 := le_tot (P := Q) (i := 12 + s) (by omega)
      have t2 := sumS_lt (P := Q) (b := s * c) c (by have := mc_le h6 hs1; omega)
      have t3 := b1.2.2.2.2.2
      omega
    obtain ⟨w3, t1, t2, t3⟩ := d_tell2 w2 (nI (Q 12) + nI (sumS Q (0 * c) c)).toInt64 (nI (Q 13) + nI (sumS Q (1 * c) c)).toInt64
    obtain ⟨k1, k2⟩ := CR_q m (qC_tr (qC_up a2.1) (qC_hi t3 (by decide) (by decide) (by decide))) t2
    refine ⟨nI z, [(nI (Q 12) + nI (sumS Q (0 * c) c)).toInt64, (nI (Q 13) + nI (sumS Q (1 * c) c)).toInt64], by simp, ⟨w3, ?_, k1, k2⟩, fun u n => ?_⟩
    · have o0 := d_owned (s := 0) a2.2 h6 (by decide)
      have o1 := d_owned (s := 1) a2.2 h6 (by decide)
      rw [nI_0] at o0
      rw [← nI_1'] at o1
      rw [hd, if_neg (by rw [if_pos ho]; decide), o0, bc_eq, o1, bc_eq, t1, bv_eq]
    · obtain ⟨n', on'⟩ := MR_7 n
      obtain ⟨u1, a1', hu1⟩ := hu u n
      obtain ⟨u2, a2', e2'⟩ := (hM 99 0 FU P _ u1 (by decide) (by unfold FU; omega) hB n' a1').1 (by rw [hQ]; exact ho)
      rw [hQ] at a2'
      rw [hz] at e2'
      have q6 : qM FM1 [122] (wI u 119 7 0) (wI u2 119 6 0) := qM_tr (qM_up a2'.1) (qM_f (k := 6) (v := 0) (by decide))
      have i6 : (wI u2 119 6 0).1 129 = eP Q := by rw [wI_r (by decide)]; exact a2'.2.1
      have f1 : (wI u2 119 6 0).1 119 1 = nI c := (q6.1.2.1 1 (by decide)).trans n'.1
      have sd0 := d_seeds (w := wI u2 119 6 0) (a := 129) (b := 0) (n0 := c) (S := Q) (fun i _ => by rw [i6]; rfl) (by show 0 + c ≤ 16; omega) (by decide) (by omega)
      rw [nI_0] at sd0
      obtain ⟨u3, g3, r3, s3⟩ := d_tellM (row0M u2) (by decide) (nI (Q 12) + nI (sumS Q (0 * c) c)).toInt64
      have i7 : u3.1 129 = eP Q := by rw [s3.1.1 129 (by decide)]; exact i6
      have f7 : u3.1 119 1 = nI c := by rw [s3.2 1 (by decide)]; exact f1
      have sd1 := d_seeds (w := u3) (a := 129) (b := c) (n0 := c) (S := Q) (fun i _ => by rw [i7]; rfl) (by show c + c ≤ 16; omega) (by decide) (by omega)
      obtain ⟨u4, g4, r4, s4⟩ := d_tellM r3 (by simp) (nI (Q 13) + nI (sumS Q (1 * c) c)).toInt64
      obtain ⟨k3, k4⟩ := MR_q n' (qM_tr q6 (qM_tr (qM_tell s3) (qM_tell s4))) r4
      refine ⟨u4, ?_, k3, onM_tr on' k4⟩
      rw [hu1, e2', Nat.zero_add]
      unfold J_X12_ends_x36_1
      rw [Nat.zero_mul] at g3
      rw [Nat.one_mul] at g4
      rw [bd_eq, if_pos (by decide), f1, sd0, bc_eq, i6, show (12 : Int32).toNatClampNeg = 12 from by decide, eP_at, g3, bv_eq, if_pos (by decide), f7, sd1, bc_eq, i7, show (13 : Int32).toNatClampNeg = 13 from by decide, eP_at, g4, bv_eq]
  · obtain ⟨k1, k2⟩ := CR_q0 m a2.1
    refine ⟨-2, rw, okS_rw ok, ⟨w2, ?_, k1, k2⟩, fun u n => ?_⟩
    · rw [hd, if_pos (by rw [if_neg ho])]
    · obtain ⟨n', on'⟩ := MR_7 n
      obtain ⟨u1, a1', hu1⟩ := hu u n
      obtain ⟨u2, a2', e2'⟩ := (hM 99 0 FU P _ u1 (by decide) (by unfold FU; omega) hB n' a1').2 ho
      obtain ⟨k3, k4⟩ := MR_q0 n' a2'
      exact ⟨u2, by rw [hu1, e2'], k3, onM_tr on' k4⟩
/-- the first of the fullest of PITS 0 to n -/
def fuF (P : Nat → Nat) : Nat → Nat
  | 0 => 0
  | n + 1 => if P (n + 1) ≤ P (fuF P n) then fuF P n else n + 1
theorem fuF_le {P : Nat → Nat} : ∀ n, fuF P n ≤ n := by
  intro n
  induction n with
  | zero => exact Nat.le_refl _
  | succ n ih =>
    unfold fuF
    split
    · omega
    · exact Nat.le_refl _
theorem q_fullest (x : Int32) : Quest (D_X11_fullest x) (D_X12_fullest x) := by
  intro w c L P hs tx rl cd V kp cl si rw B m ok okr
  have hB := okB_of ok
  have h6 := hB.2.1
  have h2 := hB.1
  have h60 : (60 : Int32) = nI 61 - 1 := by decide +kernel
  rcases arg_cases 61 (by decide) x with hx | ⟨j, hj, rfl⟩
  · refine ⟨-1, rw, okS_rw ok, ⟨w, ?_, m, onC_rf w⟩, fun u n => ⟨_, ?_, (MR_7 n).1, (MR_7 n).2⟩⟩
    · unfold D_X11_fullest
      by_cases hx0 : x < 0
      · rw [if_pos hx0]
      · obtain ⟨i, hi, rfl⟩ := nI_of hx0
        have : 61 ≤ i := (nI_leI (by omega) hi).mp (hx.resolve_left hx0)
        rw [if_neg hx0, if_neg (by rw [show (60 : Int32) = nI 60 from by decide +kernel]; exact nI_ge (by omega) hi)]
    · unfold D_X12_fullest
      rw [bd_eq, h60, d_in0_no (by decide) (by decide) hx, bc_eq, if_pos rfl]
  · obtain ⟨b1, b2, b3, -⟩ := plN_ok (V := V) j P hB
    obtain ⟨w1, e1, a1⟩ := aC_start m
    obtain ⟨w2, e2, a2⟩ := aC_playOn m okr (n := j) (by omega) hB a1
    have hMl : ∀ (k i fu : Nat) (Q : Nat → Nat) (u u' : Wd), k + i = j → k < fu → okB c L (Q 14) Q → MR u c L P hs tx rl kp cl si rw → aM u u' Q → ∃ u1, aM u u1 (plN c L V k Q).2 ∧ L_X12_fullest_31 (nI j) J_X12_fullest_x51_3 fu (nI i) u' = J_X12_fullest_x51_3 u1 := by
      intro k
      induction k with
      | zero =>
        intro i fu Q u u' hi hf hQ n h
        obtain ⟨fu, rfl⟩ : ∃ n', fu = n' + 1 := ⟨fu - 1, by omega⟩
        refine ⟨u', h, ?_⟩
        unfold L_X12_fullest_31
        rw [if_pos (nI_le (by omega) (by omega))]
      | succ k ih =>
        intro i fu Q u u' hi hf hQ n h
        obtain ⟨fu, rfl⟩ : ∃ n', fu = n' + 1 := ⟨fu - 1, by omega⟩
        obtain ⟨u1, g1, a1⟩ := aM_go n okr hQ h
        obtain ⟨u2, a2, e2⟩ := ih (i + 1) fu (rlS c L Q V) u u1 (by omega) (by omega) (rlS_ok hQ).1 n a1
        refine ⟨u2, by rw [plN_rl]; exact a2, ?_⟩
        unfold L_X12_fullest_31
        rw [if_neg (nI_ge (by omega) (by omega)), g1, bc_eq, bd_eq, nI_1, e2]
    generalize hQ : (plN c L V j P).2 = Q at *
    have hlt := tot_lt b1.2.2.2.2.2
    have hcl : ∀ (k p fu : Nat), k + p = 2 * c → 1 ≤ p → k < fu → L_X11_fullest_37 J_X11_fullest_x77_2 fu (nI (fuF Q (p - 1))) (nI p) w2 = J_X11_fullest_x77_2 (nI (fuF Q (2 * c - 1))) w2 := by
      intro k
      induction k with
      | zero =>
        intro p fu hp h1 hf
        obtain ⟨fu, rfl⟩ : ∃ n', fu = n' + 1 := ⟨fu - 1, by omega⟩
        unfold L_X11_fullest_37 D_X5_pits
        rw [isAt_c a2.2, nI_2', pk_mul, bc_eq, if_pos (nI_le (by omega) (by omega)), show p - 1 = 2 * c - 1 by omega]
      | succ k ih =>
        intro p fu hp h1 hf
        obtain ⟨fu, rfl⟩ : ∃ n', fu = n' + 1 := ⟨fu - 1, by omega⟩
        have hfl := fuF_le (P := Q) (p - 1)
        unfold L_X11_fullest_37 D_X5_pits
        rw [isAt_c a2.2, nI_2', pk_mul, bc_eq, if_neg (nI_ge (by omega) (by omega)), if_pos (ib_nI (by omega) (by omega)), if_pos (ib_nI (by omega) (by omega)), bd_eq, nI_clamp (by omega), nI_clamp (by omega), isAt_s a2.2 _ (by omega), isAt_s a2.2 _ (by omega)]
        unfold J_X11_fullest_j71_1
        rw [bd_eq, bd_eq, nI_1]
        have e : fuF Q (p + 1 - 1) = if Q p ≤ Q (fuF Q (p - 1)) then fuF Q (p - 1) else p := by
          obtain ⟨p', rfl⟩ : ∃ p', p = p' + 1 := ⟨p - 1, by omega⟩
          rfl
        have ih' := ih (p + 1) fu (by omega) (by omega) (by omega)
        by_cases hle : Q p ≤ Q (fuF Q (p - 1))
        · rw [if_pos hle] at e
          rw [if_pos (nI_le hle (hlt _ (by omega)))]
          rw [e] at ih'
          exact ih'
        · rw [if_neg hle] at e
          rw [if_neg (nI_ge (by omega) (hlt _ (by omega)))]
          rw [e] at ih'
          exact ih'
    have hmf : ∀ u1 : Wd, u1.1 129 = eP Q → u1.1 119 1 = nI c → ∀ (k p fu : Nat), k + p = 2 * c → 1 ≤ p → k < fu → L_X12_fullest_55 J_X12_fullest_x90_2 fu (nI (fuF Q (p - 1))) (nI p) u1 = J_X12_fullest_x90_2 (nI (fuF Q (2 * c - 1))) u1 := by
      intro u1 i1 c1 k
      induction k with
      | zero =>
        intro p fu hp h1 hf
        obtain ⟨fu, rfl⟩ : ∃ n', fu = n' + 1 := ⟨fu - 1, by omega⟩
        unfold L_X12_fullest_55
        rw [d_pits12 c1, bc_eq, if_pos (nI_le (by omega) (by omega)), show p - 1 = 2 * c - 1 by omega]
      | succ k ih =>
        intro p fu hp h1 hf
        obtain ⟨fu, rfl⟩ : ∃ n', fu = n' + 1 := ⟨fu - 1, by omega⟩
        have hfl := fuF_le (P := Q) (p - 1)
        unfold L_X12_fullest_55
        rw [d_pits12 c1, bc_eq, if_neg (nI_ge (by omega) (by omega)), if_pos (ib_nI (by omega) (by omega)), if_pos (ib_nI (by omega) (by omega)), bd_eq, nI_clamp (by omega), nI_clamp (by omega), i1, eP_at, eP_at]
        unfold J_X12_fullest_j83_1
        rw [bd_eq, bd_eq, nI_1]
        have e : fuF Q (p + 1 - 1) = if Q p ≤ Q (fuF Q (p - 1)) then fuF Q (p - 1) else p := by
          obtain ⟨p', rfl⟩ : ∃ p', p = p' + 1 := ⟨p - 1, by omega⟩
          rfl
        have ih' := ih (p + 1) fu (by omega) (by omega) (by omega)
        by_cases hle : Q p ≤ Q (fuF Q (p - 1))
        · rw [if_pos hle] at e
          rw [if_pos (nI_le hle (hlt _ (by omega)))]
          rw [e] at ih'
          exact ih'
        · rw [if_neg hle] at e
          rw [if_neg (nI_ge (by omega) (hlt _ (by omega)))]
          rw [e] at ih'
          exact ih'
    have hfl := fuF_le (P := Q) (2 * c - 1)
    obtain ⟨w3, t1, t2, t3⟩ := d_tell1 w2 (nI (Q (fuF Q (2 * c - 1)))).toInt64
    obtain ⟨k1, k2⟩ := CR_q m (qC_tr (qC_up a2.1) (qC_hi t3 (by decide) (by decide) (by decide))) t2
    refine ⟨nI (fuF Q (2 * c - 1)), [(nI (Q (fuF Q (2 * c - 1)))).toInt64], by simp, ⟨w3, ?_, k1, k2⟩, fun u n => ?_⟩
    · have hl := hcl (2 * c - 1) 1 FU (by omega) (by omega) (by unfold FU; omega)
      rw [show fuF Q (1 - 1) = 0 from rfl, nI_0, ← nI_1'] at hl
      unfold D_X11_fullest
      rw [if_neg (nI_pos (by omega)), if_pos (by rw [show (60 : Int32) = nI 60 from by decide +kernel]; exact nI_le (by omega) (by decide)), e1, bv_eq, e2, bc_eq, hl]
      unfold J_X11_fullest_x77_2
      rw [if_pos (ib_nI (by omega) (by omega)), nI_clamp (by omega), isAt_s a2.2 _ (by omega), t1, bv_eq]
    · obtain ⟨n', on'⟩ := MR_7 n
      obtain ⟨u1, g1, a1'⟩ := aM_start n'
      obtain ⟨u2, a2', e2'⟩ := hMl j 0 FU P _ u1 (by omega) (by unfold FU; omega) hB n' a1'
      rw [hQ] at a2'
      have hl := hmf u2 a2'.2.1 ((a2'.1.1.2.1 1 (by decide)).trans n'.1) (2 * c - 1) 1 FU (by omega) (by omega) (by unfold FU; omega)
      rw [show fuF Q (1 - 1) = 0 from rfl, nI_0, ← nI_1'] at hl
      obtain ⟨u3, g3, r3, s3⟩ := d_tellM (row0M u2) (by decide) (nI (Q (fuF Q (2 * c - 1)))).toInt64
      obtain ⟨k3, k4⟩ := MR_q n' (qM_tr (qM_up a2'.1) (qM_tr (qM_f (k := 6) (v := 0) (by decide)) (qM_tell s3))) r3
      refine ⟨u3, ?_, k3, onM_tr on' k4⟩
      unfold D_X12_fullest
      rw [bd_eq, h60, d_in0 hj (by decide), bc_eq, if_neg (by decide), g1, bv_eq, ← nI_0, e2']
      unfold J_X12_fullest_x51_3
      rw [hl]
      unfold J_X12_fullest_x90_2
      rw [bd_eq, if_pos (ib_nI (by omega) (by omega)), wI_r (by decide), a2'.2.1, nI_clamp (by omega), eP_at, g3, bv_eq]
end QS
