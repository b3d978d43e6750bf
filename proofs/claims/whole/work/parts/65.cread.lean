/-! the class's RuleReader.accept and read -/
theorem but_sub {E F : List Nat} {w w' : Wd} (h : but E w w') (hs : ∀ a ∈ E, a ∈ F) : but F w w' := ⟨fun a ha => h.1 a (fun z => ha (hs a z)), h.2⟩
theorem but_rf {E : List Nat} (w : Wd) : but E w w := ⟨fun _ _ => rfl, rfl⟩
section CA
variable {w : Wd} {wt : Bool} {dg dp : Nat} {cm : Nat → Bool} {W : List Nat} {O : List Int32}
theorem rdC_row (h : rdC w wt dg dp cm W O) {w' : Wd} {wt' : Bool} {dg' dp' : Nat} (h3 : w'.1 100 3 = w.1 100 3) (h4 : w'.1 100 4 = nI dp') (h5 : w'.1 100 5 = nI dg') (h6 : w'.1 100 6 = b2i wt') (hd : dp' ≤ dp) (h102 : w'.1 102 = w.1 102) (h101 : w'.1 101 = w.1 101) (h103 : w'.1 103 = w.1 103) (h104 : w'.1 104 = w.1 104) : rdC w' wt' dg' dp' cm W O := by
  obtain ⟨a1, a2, a3, a4, a5, a6, a7⟩ := h
  refine ⟨h3.trans a1, h4, h5, h6, fun k hk => by rw [h102]; exact a5 k (by omega), by rw [h101]; exact a6, ?_⟩
  unfold codeW at a7 ⊢
  rw [h103, show 103 + 1 = 104 from rfl, h104]
  exact a7
theorem rdC_5 (h : rdC w wt dg dp cm W O) (n : Nat) : rdC (wI w 100 5 (nI n)) wt n dp cm W O :=
  rdC_row h (wI_at_ne (by decide)) ((wI_at_ne (by decide)).trans h.2.1) wI_at ((wI_at_ne (by decide)).trans h.2.2.2.1) (Nat.le_refl _) (wI_r (by decide)) (wI_r (by decide)) (wI_r (by decide)) (wI_r (by decide))
theorem b2i_0 : b2i wt = 0 ↔ wt = false := by cases wt <;> decide
theorem c_digit {x i : Nat} (h : rdC w wt dg dp cm W O) (hN : okN dg dp W O i) (hi : i < 40) (hx : 48 ≤ x ∧ x ≤ 57) (hO : 0 < dg → 0 < O.length) : ∃ w', but RR w w' ∧ ((acc (wt, dg, dp, cm, W, O) x = none ∧ D_X7_acceptDigit (nI (x - 48)) w = some (0, w')) ∨ ∃ wt' dg' dp' cm' W' O', acc (wt, dg, dp, cm, W, O) x = some (wt', dg', dp', cm', W', O') ∧ D_X7_acceptDigit (nI (x - 48)) w = some (1, w') ∧ rdC w' wt' dg' dp' cm' W' O') := by
  obtain ⟨n1, n2, n3, n4⟩ := hN
  obtain ⟨a1, a2, a3, a4, a5, a6, a7⟩ := id h
  unfold D_X7_acceptDigit
  rw [a4, a3]
  cases wt with
  | true =>
    rw [if_neg (by decide)]
    obtain ⟨w1, q1, q2, q3⟩ := d_put a7 (by omega) (nI (x - 48))
    have r1 : ∀ b, b ≠ 103 → b ≠ 104 → w1.1 b = w.1 b := fun b h1 h2 => q3.1 b (by simp [h1, h2])
    refine ⟨wI (wI w1 100 5 1) 100 6 0, but_tr (but_tr (but_sub q3 (by simp)) (but_wI (by simp))) (but_wI (by simp)), Or.inr ⟨false, 1, dp, cm, W, O ++ [nI (x - 48)], acc_dig hx, ?_, ?_⟩⟩
    · rw [q1, bv_eq, bd_eq, if_pos (by decide), bd_eq]
    · refine ⟨?_, ?_, ?_, wI_at, ?_, ?_, ?_⟩
      · rw [wI_at_ne (by decide), wI_at_ne (by decide), r1 100 (by decide) (by decide), a1]
      · rw [wI_at_ne (by decide), wI_at_ne (by decide), r1 100 (by decide) (by decide), a2]
      · rw [wI_at_ne (by decide), wI_at, nI_1']
      · intro k hk
        rw [wI_r (by decide), wI_r (by decide), r1 102 (by decide) (by decide)]
        exact a5 k hk
      · rw [wI_r (by decide), wI_r (by decide), r1 101 (by decide) (by decide)]
        exact a6
      · unfold codeW at q2 ⊢
        rw [wI_r (by decide), wI_r (by decide), wI_r (by decide), wI_r (by decide)]
        exact q2
  | false =>
    rw [if_pos (by decide)]
    by_cases hd : dg = 0 ∨ dg = 3
    · refine ⟨w, but_rf w, Or.inl ⟨acc_dig3 hx hd, ?_⟩⟩
      rcases hd with hd | hd
      · subst hd
        rw [if_pos nI_0]
      · subst hd
        rw [if_neg (by decide), if_pos (by decide +kernel)]
    · obtain ⟨w1, q1, q2, q3⟩ := d_addD (x := x - 48) a7 (hO (by omega)) (by omega)
      have r1 : ∀ b, b ≠ 103 → b ≠ 104 → w1.1 b = w.1 b := fun b h1 h2 => q3.1 b (by simp [h1, h2])
      refine ⟨wI w1 100 5 (nI (dg + 1)), but_tr (but_sub q3 (by simp)) (but_wI (by simp)), Or.inr ⟨false, dg + 1, dp, cm, W, addD O (x - 48), acc_dig2 hx hd, ?_, ?_⟩⟩
      · rw [if_neg (by rw [nI_z (by omega)]; omega), if_neg (by rw [show (3 : Int32) = nI 3 from by decide +kernel, nI_eq (by omega) (by omega)]; omega), q1, bv_eq, bd_eq, r1 100 (by decide) (by decide), a3, nI_1]
      · refine ⟨?_, ?_, wI_at, ?_, ?_, ?_, ?_⟩
        · rw [wI_at_ne (by decide), r1 100 (by decide) (by decide), a1]
        · rw [wI_at_ne (by decide), r1 100 (by decide) (by decide), a2]
        · rw [wI_at_ne (by decide), r1 100 (by decide) (by decide), a4]
        · intro k hk
          rw [wI_r (by decide), r1 102 (by decide) (by decide)]
          exact a5 k hk
        · rw [wI_r (by decide), r1 101 (by decide) (by decide)]
          exact a6
        · unfold codeW at q2 ⊢
          rw [wI_r (by decide), wI_r (by decide)]
          exact q2
theorem c_ahead {x i : Nat} (h : rdC w true dg dp cm W O) (h0 : dg = 0) (hN : okN dg dp W O i) (hi : i < 40) (hx : x < 256) (hd : ¬ (48 ≤ x ∧ x ≤ 57)) : ∃ w', but RR w w' ∧ ((acc (true, dg, dp, cm, W, O) x = none ∧ D_X7_acceptAhead (nI x) w = some (0, w')) ∨ ∃ wt' dg' dp' cm' W' O', acc (true, dg, dp, cm, W, O) x = some (wt', dg', dp', cm', W', O') ∧ D_X7_acceptAhead (nI x) w = some (1, w') ∧ rdC w' wt' dg' dp' cm' W' O') := by
  subst h0
  obtain ⟨n1, n2, n3, n4⟩ := hN
  obtain ⟨a1, a2, a3, a4, a5, a6, a7⟩ := id h
  unfold D_X7_acceptAhead
  by_cases c45 : x = 45
  · subst c45
    obtain ⟨w1, q1, q2, q3, q4, q5⟩ := c_await (a := 256) a1 a6 (by omega)
    have r1 : ∀ b, b ≠ 100 → b ≠ 101 → w1.1 b = w.1 b := fun b h1 h2 => q4.1 b (by simp [h1, h2])
    refine ⟨w1, but_sub q4 (by simp), Or.inr ⟨true, 0, dp, cm, 256 :: W, O, acc_neg, ?_, q2, (q5 4 (by decide)).trans a2, (q5 5 (by decide)).trans a3, (q5 6 (by decide)).trans a4, fun k hk => by rw [r1 102 (by decide) (by decide)]; exact a5 k hk, q3, ?_⟩⟩
    · rw [if_pos (by decide +kernel), show (256 : Int32) = nI 256 from by decide +kernel, q1, bv_eq]
    · unfold codeW at a7 ⊢
      rw [r1 103 (by decide) (by decide), r1 (103 + 1) (by decide) (by decide)]
      exact a7
  · rw [if_neg (by rw [show (45 : Int32) = nI 45 from by decide +kernel, nI_eq (by omega) (by omega)]; exact c45), bd_eq]
    have plain : (x = 40 → ¬ dp < 4) → ∃ w', but RR w w' ∧ ((acc (true, 0, dp, cm, W, O) x = none ∧ J_X7_acceptAhead_j56_1 (nI x) w = some (0, w')) ∨ ∃ wt' dg' dp' cm' W' O', acc (true, 0, dp, cm, W, O) x = some (wt', dg', dp', cm', W', O') ∧ J_X7_acceptAhead_j56_1 (nI x) w = some (1, w') ∧ rdC w' wt' dg' dp' cm' W' O') := by
      intro h40
      unfold J_X7_acceptAhead_j56_1
      rw [d_isThing hx, bc_eq]
      by_cases hl : lof x = 7
      · rw [if_pos hl, if_pos rfl]
        exact ⟨w, but_rf w, Or.inl ⟨acc_bad hl hd c45 h40, rfl⟩⟩
      · have hl7 : lof x < 7 := by
          have key : ∀ x, lof x ≤ 7 := by
            intro x
            unfold lof
            repeat (split <;> try omega)
          have := key x
          omega
        have c40 : x ≠ 40 := fun z => hl (by rw [z]; rfl)
        obtain ⟨w1, q1, q2, q3⟩ := d_put a7 (by omega) (-(nI x))
        have r1 : ∀ b, b ≠ 103 → b ≠ 104 → w1.1 b = w.1 b := fun b h1 h2 => q3.1 b (by simp [h1, h2])
        refine ⟨wI w1 100 6 0, but_tr (but_sub q3 (by simp)) (but_wI (by simp)), Or.inr ⟨false, 0, dp, cm, W, O ++ [ng x], acc_th hl7 hd c45 c40, ?_, ?_⟩⟩
        · rw [if_neg hl, if_neg (by decide), q1, bv_eq, if_pos (by decide), bd_eq]
        · refine ⟨?_, ?_, ?_, wI_at, ?_, ?_, ?_⟩
          · rw [wI_at_ne (by decide), r1 100 (by decide) (by decide), a1]
          · rw [wI_at_ne (by decide), r1 100 (by decide) (by decide), a2]
          · rw [wI_at_ne (by decide), r1 100 (by decide) (by decide), a3]
          · intro k hk
            rw [wI_r (by decide), r1 102 (by decide) (by decide)]
            exact a5 k hk
          · rw [wI_r (by decide), r1 101 (by decide) (by decide)]
            exact a6
          · unfold codeW at q2 ⊢
            rw [wI_r (by decide), wI_r (by decide)]
            exact q2
    by_cases c40 : x = 40
    · subst c40
      rw [if_pos (by decide +kernel), a2]
      by_cases hp : dp < 4
      · rw [if_neg (by rw [show (4 : Int32) = nI 4 from by decide +kernel]; exact nI_ge hp (by decide))]
        obtain ⟨w1, q1, q2, q3, q4, q5⟩ := c_await (a := 40) a1 a6 (by omega)
        have r1 : ∀ b, b ≠ 100 → b ≠ 101 → w1.1 b = w.1 b := fun b h1 h2 => q4.1 b (by simp [h1, h2])
        refine ⟨wI (wI w1 100 4 (nI (dp + 1))) 102 (dp + 1) 0, but_tr (but_tr (but_sub q4 (by simp)) (but_wI (by simp))) (but_wI (by simp)), Or.inr ⟨true, 0, dp + 1, setB cm (dp + 1) false, 40 :: W, O, acc_open hp, ?_, ?_⟩⟩
        · rw [q1, bv_eq, bd_eq, q5 4 (by decide), a2, nI_1, wI_at, if_pos (ib_nI (by omega) (by omega)), bd_eq, nI_clamp (by omega)]
          rfl
        · refine ⟨?_, ?_, ?_, ?_, ?_, ?_, ?_⟩
          · rw [wI_r (by decide), wI_at_ne (by decide), q2]
            rfl
          · rw [wI_r (by decide), wI_at]
          · rw [wI_r (by decide), wI_at_ne (by decide), q5 5 (by decide), a3]
          · rw [wI_r (by decide), wI_at_ne (by decide), q5 6 (by decide), a4]
          · intro k hk
            unfold setB
            by_cases e : k = dp + 1
            · subst e
              rw [wI_at, if_pos rfl]
              rfl
            · rw [wI_at_ne e, wI_r (by decide), r1 102 (by decide) (by decide), if_neg e]
              exact a5 k (by omega)
          · rw [wI_r (by decide), wI_r (by decide)]
            exact q3
          · unfold codeW at a7 ⊢
            rw [wI_r (by decide), wI_r (by decide), wI_r (by decide), wI_r (by decide), r1 103 (by decide) (by decide), r1 (103 + 1) (by decide) (by decide)]
            exact a7
      · rw [if_pos (by rw [show (4 : Int32) = nI 4 from by decide +kernel]; exact nI_le (by omega) (by omega))]
        exact plain (fun _ => hp)
    · rw [if_neg (by rw [show (40 : Int32) = nI 40 from by decide +kernel, nI_eq (by omega) (by omega)]; exact c40)]
      exact plain (fun z => absurd z c40)
theorem c_bind {s : Nat} (hs : s ≤ 4) (h : rdC w wt dg dp cm W O) {i : Nat} (hN : okN dg dp W O i) (hi : i ≤ 40) : ∃ w', D_X7_bindWaiting (nI s) w = some w' ∧ rdC w' wt dg dp cm (flush s W O).1 (flush s W O).2 ∧ but [100, 103, 104] w w' := by
  obtain ⟨n1, n2, n3, n4⟩ := hN
  obtain ⟨a1, a2, a3, a4, a5, a6, a7⟩ := id h
  obtain ⟨w', t1, t2, t3, t4, t5, t6⟩ := c_flush (k := J_X7_bindWaiting_x57_1) hs W O w FU a7 a1 a6 (by omega) n4 (by unfold FU; omega)
  refine ⟨w', t1, ⟨t3, (t6 4 (by decide)).trans a2, (t6 5 (by decide)).trans a3, (t6 6 (by decide)).trans a4, fun k hk => ?_, t4, t2⟩, t5⟩
  rw [t5.1 102 (by decide)]
  exact a5 k hk
theorem acc_beh {x : Nat} (hd : ¬ (48 ≤ x ∧ x ≤ 57)) (h41 : ¬ (x = 41 ∧ 0 < dp)) : acc (false, dg, dp, cm, W, O) x = if str x = 0 then none else if str x = 1 ∧ cm dp = true then none else some (true, 0, dp, (if str x = 1 then setB cm dp true else cm), x :: (flush (str x) W O).1, (flush (str x) W O).2) := by
  unfold acc
  rw [if_neg hd, if_neg (by simp), if_neg h41]
theorem c_behind {x i : Nat} (h : rdC w false dg dp cm W O) (h0 : dg = 0) (hN : okN dg dp W O i) (hi : i < 40) (hx : x < 256) (hd : ¬ (48 ≤ x ∧ x ≤ 57)) : ∃ w', but RR w w' ∧ ((acc (false, dg, dp, cm, W, O) x = none ∧ D_X7_acceptBehind (nI x) w = some (0, w')) ∨ ∃ wt' dg' dp' cm' W' O', acc (false, dg, dp, cm, W, O) x = some (wt', dg', dp', cm', W', O') ∧ D_X7_acceptBehind (nI x) w = some (1, w') ∧ rdC w' wt' dg' dp' cm' W' O') := by
  subst h0
  obtain ⟨n1, n2, n3, n4⟩ := id hN
  obtain ⟨a1, a2, a3, a4, a5, a6, a7⟩ := id h
  unfold D_X7_acceptBehind
  rw [bd_eq]
  have plain : ¬ (x = 41 ∧ 0 < dp) → ∃ w', but RR w w' ∧ ((acc (false, 0, dp, cm, W, O) x = none ∧ J_X7_acceptBehind_j34_3 (nI x) w = some (0, w')) ∨ ∃ wt' dg' dp' cm' W' O', acc (false, 0, dp, cm, W, O) x = some (wt', dg', dp', cm', W', O') ∧ J_X7_acceptBehind_j34_3 (nI x) w = some (1, w') ∧ rdC w' wt' dg' dp' cm' W' O') := by
    intro h41
    have hA := acc_beh (dg := 0) (cm := cm) (W := W) (O := O) hd h41
    unfold J_X7_acceptBehind_j34_3
    rw [d_strength (by omega), bc_eq]
    by_cases s0 : str x = 0
    · rw [if_pos s0] at hA
      rw [if_pos (show nI (str x) = 0 by rw [s0]; rfl)]
      exact ⟨w, but_rf w, Or.inl ⟨hA, rfl⟩⟩
    · have s4 := str_4 x
      rw [if_neg s0] at hA
      rw [if_neg (show ¬ nI (str x) = 0 by rw [nI_z (by omega)]; exact s0), bd_eq]
      have fin : ∀ (w1 : Wd) (cm1 : Nat → Bool), but RR w w1 → rdC w1 false 0 dp cm1 W O → ∃ w', but RR w w' ∧ J_X7_acceptBehind_j77_1 (nI (str x)) (nI x) w1 = some (1, w') ∧ rdC w' true 0 dp cm1 (x :: (flush (str x) W O).1) (flush (str x) W O).2 := by
        intro w1 cm1 hb1 hr1
        obtain ⟨w2, q1, q2, q3⟩ := c_bind s4 hr1 hN (by omega)
        obtain ⟨b1, b2, b3, b4, b5, b6, b7⟩ := id q2
        have hfl := (flush_len (s := str x) W O).1
        obtain ⟨w3, t1, t2, t3, t4, t5⟩ := c_await (a := x) b1 b6 (by omega)
        have r3 : ∀ b, b ≠ 100 → b ≠ 101 → w3.1 b = w2.1 b := fun b h1 h2 => t4.1 b (by simp [h1, h2])
        refine ⟨wI w3 100 6 1, but_tr (but_tr (but_tr hb1 (but_sub q3 (by simp))) (but_sub t4 (by simp))) (but_wI (by simp)), ?_, ?_⟩
        · unfold J_X7_acceptBehind_j77_1
          rw [q1, bv_eq, t1, bv_eq, if_pos (by decide), bd_eq]
        · refine ⟨?_, ?_, ?_, wI_at, ?_, ?_, ?_⟩
          · rw [wI_at_ne (by decide), t2]
            rfl
          · rw [wI_at_ne (by decide), t5 4 (by decide), b2]
          · rw [wI_at_ne (by decide), t5 5 (by decide), b3]
          · intro k hk
            rw [wI_r (by decide), r3 102 (by decide) (by decide)]
            exact b5 k hk
          · rw [wI_r (by decide)]
            exact t3
          · unfold codeW at b7 ⊢
            rw [wI_r (by decide), wI_r (by decide), r3 103 (by decide) (by decide), r3 (103 + 1) (by decide) (by decide)]
            exact b7
      by_cases s1 : str x = 1
      · have e1 : nI (str x) = 1 := by rw [s1]; rfl
        rw [if_pos e1, a2, if_pos (ib_nI (by omega) (by omega)), nI_clamp (by omega), a5 dp (Nat.le_refl _)]
        cases hc : cm dp with
        | true =>
          rw [if_pos ⟨s1, hc⟩] at hA
          rw [if_neg (show ¬ b2i true = 0 by decide)]
          exact ⟨w, but_rf w, Or.inl ⟨hA, rfl⟩⟩
        | false =>
          rw [if_neg (by rw [hc]; simp), if_pos s1] at hA
          rw [if_pos (show b2i false = 0 by decide)]
          unfold J_X7_acceptBehind_j62_2
          rw [bd_eq, if_pos e1, a2, if_pos (ib_nI (by omega) (by omega)), bd_eq, nI_clamp (by omega), show vp_nar .boolean 1 = 1 from rfl]
          have hr1 : rdC (wI w 102 dp 1) false 0 dp (setB cm dp true) W O := by
            refine ⟨by rw [wI_r (by decide)]; exact a1, by rw [wI_r (by decide)]; exact a2, by rw [wI_r (by decide)]; exact a3, by rw [wI_r (by decide)]; exact a4, fun k hk => ?_, by rw [wI_r (by decide)]; exact a6, ?_⟩
            · unfold setB
              by_cases e : k = dp
              · subst e
                rw [wI_at, if_pos rfl]
                rfl
              · rw [wI_at_ne e, if_neg e]
                exact a5 k hk
            · unfold codeW at a7 ⊢
              rw [wI_r (by decide), wI_r (by decide)]
              exact a7
          obtain ⟨w', f1, f2, f3⟩ := fin _ _ (but_wI (by simp)) hr1
          exact ⟨w', f1, Or.inr ⟨_, _, _, _, _, _, hA, f2, f3⟩⟩
      · have e1 : ¬ nI (str x) = 1 := by rw [nI_1', nI_eq (by omega) (by omega)]; exact s1
        rw [if_neg (fun z => s1 z.1), if_neg s1] at hA
        rw [if_neg e1]
        unfold J_X7_acceptBehind_j62_2
        rw [bd_eq, if_neg e1]
        obtain ⟨w', f1, f2, f3⟩ := fin w cm (but_rf w) h
        exact ⟨w', f1, Or.inr ⟨_, _, _, _, _, _, hA, f2, f3⟩⟩
  by_cases c41 : x = 41
  · subst c41
    rw [if_pos (by decide +kernel), a2]
    by_cases hp : 0 < dp
    · rw [if_neg (nI_nle hp (by omega)), show (1 : Int32) = nI 1 from nI_1']
      obtain ⟨w1, q1, q2, q3⟩ := c_bind (s := 1) (by decide) h hN (by omega)
      obtain ⟨b1, b2, b3, b4, b5, b6, b7⟩ := id q2
      rw [q1, bv_eq, acc_close hp]
      have drop : ∃ w2, D_X7_dropOpening w1 = some w2 ∧ rdC w2 false 0 dp cm (flush 1 W O).1.tail (flush 1 W O).2 ∧ but RR w1 w2 := by
        unfold D_X7_dropOpening
        cases hW : (flush 1 W O).1 with
        | nil =>
          rw [hW] at b1 b6 q2
          rw [b1, if_pos (by decide)]
          exact ⟨w1, rfl, q2, but_rf w1⟩
        | cons a V =>
          rw [hW] at b1 b6
          have hV : V.length < 2 ^ 31 - 1 := by
            have := (flush_len (s := 1) W O).1
            rw [hW, List.length_cons] at this
            omega
          rw [List.length_cons] at b1
          rw [b1, if_neg (nI_nle (by omega) (by omega)), nI_pred, bd_eq]
          refine ⟨_, rfl, ⟨wI_at, ?_, ?_, ?_, fun k hk => ?_, ?_, ?_⟩, but_wI (by simp)⟩
          · rw [wI_at_ne (by decide)]; exact b2
          · rw [wI_at_ne (by decide)]; exact b3
          · rw [wI_at_ne (by decide)]; exact b4
          · rw [wI_r (by decide)]; exact b5 k hk
          · rw [wI_r (by decide)]; exact (stk_pop b6).1
          · unfold codeW at b7 ⊢
            rw [wI_r (by decide), wI_r (by decide)]
            exact b7
      obtain ⟨w2, t1, t2, t3⟩ := drop
      rw [t1, bv_eq, bd_eq, t2.2.1, ← nI_1', nI_m1 hp]
      refine ⟨wI w2 100 4 (nI (dp - 1)), but_tr (but_tr (but_sub q3 (by simp)) t3) (but_wI (by simp)), Or.inr ⟨_, _, _, _, _, _, rfl, rfl, ?_⟩⟩
      exact rdC_row t2 (wI_at_ne (by decide)) wI_at ((wI_at_ne (by decide)).trans t2.2.2.1) ((wI_at_ne (by decide)).trans t2.2.2.2.1) (by omega) (wI_r (by decide)) (wI_r (by decide)) (wI_r (by decide)) (wI_r (by decide))
    · rw [if_pos (by rw [nI_le0 (by omega)]; omega)]
      exact plain (fun z => hp z.2)
  · rw [if_neg (by rw [show (41 : Int32) = nI 41 from by decide +kernel, nI_eq (by omega) (by omega)]; exact c41)]
    exact plain (fun z => c41 z.1)
theorem acc_nd {x : Nat} (hd : ¬ (48 ≤ x ∧ x ≤ 57)) : acc (wt, dg, dp, cm, W, O) x = acc (wt, 0, dp, cm, W, O) x := by
  unfold acc
  rw [if_neg hd, if_neg hd]
theorem c_accept {x i : Nat} (h : rdC w wt dg dp cm W O) (hN : okN dg dp W O i) (hi : i < 40) (hx : x < 256) (hO : 0 < dg → 0 < O.length) : ∃ w', but RR w w' ∧ ((acc (wt, dg, dp, cm, W, O) x = none ∧ D_X7_accept (nI x) w = some (0, w')) ∨ ∃ wt' dg' dp' cm' W' O', acc (wt, dg, dp, cm, W, O) x = some (wt', dg', dp', cm', W', O') ∧ D_X7_accept (nI x) w = some (1, w') ∧ rdC w' wt' dg' dp' cm' W' O') := by
  unfold D_X7_accept
  rw [bd_eq, show (48 : Int32) = nI 48 from by decide +kernel, show (57 : Int32) = nI 57 from by decide +kernel]
  by_cases hd : 48 ≤ x ∧ x ≤ 57
  · rw [if_neg (nI_nlt hd.1 (by omega)), if_neg (nI_nlt hd.2 (by omega))]
    have e : nI x - nI 48 = nI (x - 48) := by
      have key : ∀ x, x < 58 → 48 ≤ x → nI x - nI 48 = nI (x - 48) := by decide +kernel
      exact key x (by omega) hd.1
    rw [e]
    obtain ⟨w', b, c⟩ := c_digit h hN hi hd hO
    refine ⟨w', b, ?_⟩
    rcases c with ⟨c1, c2⟩ | ⟨wt', dg', dp', cm', W', O', c1, c2, c3⟩
    · exact Or.inl ⟨c1, by rw [c2, bc_eq, if_pos (by decide)]⟩
    · exact Or.inr ⟨wt', dg', dp', cm', W', O', c1, by rw [c2, bc_eq, if_pos (by decide)], c3⟩
  · have h5 := rdC_5 h 0
    have hN5 : okN 0 dp W O i := ⟨by decide, hN.2⟩
    rw [acc_nd hd]
    have key : ∃ w', but RR w w' ∧ ((acc (wt, 0, dp, cm, W, O) x = none ∧ J_X7_accept_j21_1 (nI x) w = some (0, w')) ∨ ∃ wt' dg' dp' cm' W' O', acc (wt, 0, dp, cm, W, O) x = some (wt', dg', dp', cm', W', O') ∧ J_X7_accept_j21_1 (nI x) w = some (1, w') ∧ rdC w' wt' dg' dp' cm' W' O') := by
      unfold J_X7_accept_j21_1
      rw [bd_eq, nI_0', h5.2.2.2.1]
      cases wt with
      | true =>
        rw [if_neg (by decide)]
        obtain ⟨w', b, c⟩ := c_ahead h5 rfl hN5 hi hx hd
        refine ⟨w', but_tr (but_wI (by simp)) b, ?_⟩
        rcases c with ⟨c1, c2⟩ | ⟨wt', dg', dp', cm', W', O', c1, c2, c3⟩
        · exact Or.inl ⟨c1, by rw [c2, bc_eq, if_pos (by decide)]; rfl⟩
        · exact Or.inr ⟨wt', dg', dp', cm', W', O', c1, by rw [c2, bc_eq, if_pos (by decide)], c3⟩
      | false =>
        rw [if_pos (by decide)]
        obtain ⟨w', b, c⟩ := c_behind h5 rfl hN5 hi hx hd
        refine ⟨w', but_tr (but_wI (by simp)) b, ?_⟩
        rcases c with ⟨c1, c2⟩ | ⟨wt', dg', dp', cm', W', O', c1, c2, c3⟩
        · exact Or.inl ⟨c1, by rw [c2, bc_eq, if_pos (by decide)]; rfl⟩
        · exact Or.inr ⟨wt', dg', dp', cm', W', O', c1, by rw [c2, bc_eq, if_pos (by decide)], c3⟩
    by_cases h48 : x < 48
    · rw [if_pos (nI_lt h48 (by omega))]
      exact key
    · rw [if_neg (nI_nlt (by omega) (by omega)), if_pos (nI_lt (by omega) (by omega))]
      exact key
end CA
