/-! comes -/
/-- the first PIT i, of m from i on, that holds i -/
def feF (R : Nat → Nat) : Nat → Nat → Option Nat
  | 0, _ => none
  | m + 1, i => if R i = i then some i else feF R m (i + 1)
def lifT (R : Nat → Nat) (i : Nat) : Nat → Nat := fun k => if k = i then 0 else if 1 ≤ k ∧ k < i then R k + 1 else R k
/-- how many SEEDS come home, and what is left -/
def cmL (n : Nat) : Nat → (Nat → Nat) → Nat × (Nat → Nat)
  | 0, R => (0, R)
  | s + 1, R => match feF R n 1 with | none => (0, R) | some i => ((cmL n s (lifT R i)).1 + 1, (cmL n s (lifT R i)).2)
theorem feF_some {R : Nat → Nat} : ∀ m i j, feF R m i = some j → i ≤ j ∧ j < i + m ∧ R j = j ∧ ∀ k, i ≤ k → k < j → R k ≠ k := by
  intro m
  induction m with
  | zero => intro i j h; cases h
  | succ m ih =>
    intro i j h
    unfold feF at h
    by_cases e : R i = i
    · rw [if_pos e] at h
      cases h
      exact ⟨Nat.le_refl _, by omega, e, fun k h1 h2 => by omega⟩
    · rw [if_neg e] at h
      obtain ⟨a, b, c, d⟩ := ih _ _ h
      refine ⟨by omega, by omega, c, fun k h1 h2 => ?_⟩
      by_cases ek : k = i
      · rw [ek]; exact e
      · exact d k (by omega) h2
theorem feF_none {R : Nat → Nat} : ∀ m i, feF R m i = none → ∀ k, i ≤ k → k < i + m → R k ≠ k := by
  intro m
  induction m with
  | zero => intro i h k h1 h2; omega
  | succ m ih =>
    intro i h k h1 h2
    unfold feF at h
    by_cases e : R i = i
    · rw [if_pos e] at h
      cases h
    · rw [if_neg e] at h
      by_cases ek : k = i
      · rw [ek]; exact e
      · exact ih _ h k (by omega) (by omega)
theorem feF_ext {R : Nat → Nat} {d : Nat} : ∀ m i, (∀ k, i + m ≤ k → k < i + m + d → R k ≠ k) → feF R (m + d) i = feF R m i := by
  intro m
  induction m with
  | zero =>
    intro i h
    rw [Nat.zero_add]
    show _ = none
    have key : ∀ d i, (∀ k, i ≤ k → k < i + d → R k ≠ k) → feF R d i = none := by
      intro d
      induction d with
      | zero => intro i _; rfl
      | succ d ih =>
        intro i h
        unfold feF
        rw [if_neg (h i (Nat.le_refl _) (by omega))]
        exact ih (i + 1) (fun k h1 h2 => h k (by omega) (by omega))
    exact key d i (fun k h1 h2 => h k (by omega) (by omega))
  | succ m ih =>
    intro i h
    rw [show m + 1 + d = m + d + 1 by omega]
    unfold feF
    by_cases e : R i = i
    · rw [if_pos e, if_pos e]
    · rw [if_neg e, if_neg e]
      exact ih (i + 1) (fun k h1 h2 => h k (by omega) (by omega))
theorem lifT_sum {R : Nat → Nat} {i : Nat} (h1 : 1 ≤ i) (hi : R i = i) : ∀ m, (m < i → sumS (lifT R i) 1 m = sumS R 1 m + m) ∧ (i ≤ m → sumS (lifT R i) 1 m + 1 = sumS R 1 m) := by
  intro m
  induction m with
  | zero => exact ⟨fun _ => rfl, fun h => by omega⟩
  | succ m ih =>
    have e1 : sumS (lifT R i) 1 (m + 1) = sumS (lifT R i) 1 m + lifT R i (1 + m) := rfl
    have e2 : sumS R 1 (m + 1) = sumS R 1 m + R (1 + m) := rfl
    rw [e1, e2]
    unfold lifT at *
    refine ⟨fun h => ?_, fun h => ?_⟩
    · rw [if_neg (show ¬ 1 + m = i by omega), if_pos (show 1 ≤ 1 + m ∧ 1 + m < i by omega), ih.1 (by omega)]
      omega
    · by_cases e : 1 + m = i
      · rw [if_pos e, ih.1 (by omega), e, hi]
        omega
      · rw [if_neg e, if_neg (show ¬ (1 ≤ 1 + m ∧ 1 + m < i) by omega)]
        have := ih.2 (by omega)
        omega
theorem sum_le1 {R : Nat → Nat} : ∀ n k, 1 ≤ k → k ≤ n → R k ≤ sumS R 1 n := by
  intro n
  induction n with
  | zero => intro k h1 h2; omega
  | succ n ih =>
    intro k h1 h2
    show _ ≤ sumS R 1 n + R (1 + n)
    by_cases e : k = 1 + n
    · rw [e]; omega
    · have := ih k h1 (by omega)
      omega
/-- the SEEDS in sum go down by one -/
theorem cmL_ok {n : Nat} : ∀ (s : Nat) (R : Nat → Nat), sumS R 1 n = s → (∀ k, n < k → R k = 0) → (cmL n s R).1 + sumS (cmL n s R).2 1 n = s ∧ feF (cmL n s R).2 n 1 = none := by
  intro s
  induction s with
  | zero =>
    intro R h _
    refine ⟨by show 0 + sumS R 1 n = 0; omega, ?_⟩
    show feF R n 1 = none
    cases hf : feF R n 1 with
    | none => rfl
    | some i =>
      obtain ⟨a, b, c, -⟩ := feF_some _ _ _ hf
      have := sum_le1 (R := R) n i a (by omega)
      omega
  | succ s ih =>
    intro R h h0
    unfold cmL
    cases hf : feF R n 1 with
    | none => exact ⟨by show 0 + sumS R 1 n = s + 1; omega, hf⟩
    | some i =>
      obtain ⟨a, b, c, -⟩ := feF_some _ _ _ hf
      have hs := (lifT_sum a c n).2 (by omega)
      obtain ⟨i1, i2⟩ := ih (lifT R i) (by omega) (fun k hk => by
        unfold lifT
        rw [if_neg (by omega), if_neg (by omega)]
        exact h0 k hk)
      refine ⟨?_, i2⟩
      show (cmL n s (lifT R i)).1 + 1 + sumS (cmL n s (lifT R i)).2 1 n = s + 1
      omega
section LC
variable {w u : Wd} {n : Nat}
def tlC (w : Wd) (R : Nat → Nat) : Prop := ∀ k, 1 ≤ k → k < 21 → w.1 118 k = nI (R k)
theorem c_upl {k10 : Wd → Option (Int32 × Wd)} {R : Nat → Nat} {i : Nat} (hi : i < 21) (hb : ∀ k, k < 21 → R k < 2000) : ∀ (m j fu : Nat) (w : Wd), m + j = i → m < fu → 1 ≤ j → tlC w (fun k => if k = i then 0 else if 1 ≤ k ∧ k < j then R k + 1 else R k) → ∃ w1, L_X11_liftLeast_45 (nI i) k10 fu (nI j) w = k10 w1 ∧ but [118] w w1 ∧ tlC w1 (lifT R i) := by
  intro m
  induction m with
  | zero =>
    intro j fu w hj hf h1 hr
    obtain ⟨fu, rfl⟩ : ∃ n', fu = n' + 1 := ⟨fu - 1, by omega⟩
    have : j = i := by omega
    subst this
    refine ⟨w, ?_, but_rf w, hr⟩
    unfold L_X11_liftLeast_45
    rw [if_pos (nI_le (Nat.le_refl _) (by omega))]
  | succ m ih =>
    intro j fu w hj hf h1 hr
    obtain ⟨fu, rfl⟩ : ∃ n', fu = n' + 1 := ⟨fu - 1, by omega⟩
    have hv : w.1 118 j = nI (R j) := by
      rw [hr j h1 (by omega)]
      simp only
      rw [if_neg (by omega), if_neg (by omega)]
    obtain ⟨w1, e1, b1, r1⟩ := ih (j + 1) fu (wI w 118 j (nI (R j + 1))) (by omega) (by omega) (by omega) (fun k hk1 hk2 => by
      by_cases e : k = j
      · subst e
        rw [wI_at]
        simp only
        rw [if_neg (by omega), if_pos (by omega)]
      · rw [wI_at_ne e, hr k hk1 hk2]
        simp only
        by_cases e2 : k = i
        · rw [if_pos e2, if_pos e2]
        · rw [if_neg e2, if_neg e2]
          by_cases e3 : k < j
          · rw [if_pos ⟨hk1, e3⟩, if_pos ⟨hk1, by omega⟩]
          · rw [if_neg (by omega), if_neg (by omega)])
    refine ⟨w1, ?_, but_tr (but_wI (by simp)) b1, r1⟩
    unfold L_X11_liftLeast_45
    rw [if_neg (nI_ge (by omega) (by omega)), if_pos (ib_nI (by omega) (by decide)), if_pos (ib_nI (by omega) (by decide)), bd_eq, bd_eq, nI_clamp (by omega), hv, nI_1, nI_1, e1]
theorem c_find1 {R : Nat → Nat} {k1 : Int32 → Wd → Option (Int32 × Wd)} (hr : tlC w R) (hb : ∀ k, k < 21 → R k < 2000) : ∀ (m i fu : Nat), m + i = 21 → m < fu → 1 ≤ i → i ≤ 20 → L_X11_liftLeast_2 k1 fu (nI i) w = k1 (nI (match feF R m i with | none => 20 | some j => j)) w := by
  intro m
  induction m with
  | zero => intro i fu hi hf h1 h2; omega
  | succ m ih =>
    intro i fu hi hf h1 h2
    obtain ⟨fu, rfl⟩ : ∃ n', fu = n' + 1 := ⟨fu - 1, by omega⟩
    unfold L_X11_liftLeast_2 feF
    rw [show (20 : Int32) = nI 20 from by decide +kernel]
    by_cases e20 : i = 20
    · subst e20
      rw [if_pos (nI_le (Nat.le_refl _) (by omega))]
      have : m = 0 := by omega
      subst this
      by_cases e : R 20 = 20
      · rw [if_pos e]
      · rw [if_neg e]
        rfl
    · rw [if_neg (nI_ge (by omega) (by omega)), if_pos (ib_nI (by omega) (by decide)), nI_clamp (by omega), hr i h1 (by omega)]
      have hbi := hb i (by omega)
      by_cases e : R i = i
      · rw [if_pos e, if_pos (by rw [e])]
      · rw [if_neg e, if_neg (by rw [nI_eq (by omega) (by omega)]; exact e), bd_eq, nI_1]
        exact ih (i + 1) fu (by omega) (by omega) (by omega) (by omega)
theorem c_least {R : Nat → Nat} (hr : tlC w R) (hb : ∀ k, k < 21 → R k < 2000) : (feF R 20 1 = none → D_X11_liftLeast w = some (0, w)) ∧ ∀ i, feF R 20 1 = some i → ∃ w1, D_X11_liftLeast w = some (1, w1) ∧ but [118] w w1 ∧ tlC w1 (lifT R i) := by
  have h := c_find1 (k1 := J_X11_liftLeast_x24_2) hr hb 20 1 FU rfl (by unfold FU; omega) (by decide) (by decide)
  have hj : ∀ j, 1 ≤ j → j < 21 → J_X11_liftLeast_x24_2 (nI j) w = if R j = j then L_X11_liftLeast_45 (nI j) J_X11_liftLeast_x66_1 FU 1 (wI w 118 j 0) else some (0, w) := by
    intro j h1 h2
    have hbj := hb j h2
    unfold J_X11_liftLeast_x24_2
    rw [if_pos (ib_nI h2 (by decide)), if_pos (ib_nI h2 (by decide)), nI_clamp (by omega), hr j h1 h2, bd_eq]
    by_cases e : R j = j
    · rw [if_pos e, if_pos (by rw [e])]
    · rw [if_neg e, if_neg (by rw [nI_eq (by omega) (by omega)]; exact e)]
  refine ⟨fun h0 => ?_, fun i hi => ?_⟩
  · unfold D_X11_liftLeast
    rw [nI_1', h, h0]
    simp only
    rw [hj 20 (by decide) (by decide), if_neg (feF_none _ _ h0 20 (by decide) (by decide))]
  · obtain ⟨a, b, c, -⟩ := feF_some _ _ _ hi
    obtain ⟨w1, e1, b1, r1⟩ := c_upl (k10 := J_X11_liftLeast_x66_1) (R := R) (i := i) (by omega) hb (i - 1) 1 FU (wI w 118 i 0) (by omega) (by unfold FU; omega) (by decide) (fun k hk1 hk2 => by
      simp only
      by_cases e : k = i
      · subst e
        rw [wI_at, if_pos rfl, nI_0]
      · rw [wI_at_ne e, if_neg e, if_neg (by omega)]
        exact hr k hk1 hk2)
    refine ⟨w1, ?_, but_tr (but_wI (by simp)) b1, r1⟩
    unfold D_X11_liftLeast
    rw [nI_1', h, hi]
    simp only
    rw [hj i a (by omega), if_pos c, nI_1', e1]
    rfl
/-- the class lifts as long as it can -/
theorem c_lifts {k17 : Int32 → Wd → Option (Int32 × Wd)} (hn : n ≤ 20) {S : Nat} (hS : S < 1000) : ∀ (s j fu : Nat) (R : Nat → Nat) (w : Wd), j + s = S → s < fu → sumS R 1 n = s → (∀ k, n < k → R k = 0) → tlC w R → ∃ w1, L_X11_liftAll_60 (nI S) k17 fu (nI j) w = k17 (nI (j + (cmL n s R).1)) w1 ∧ but [118] w w1 := by
  intro s
  induction s with
  | zero =>
    intro j fu R w hj hf hs h0 hr
    obtain ⟨fu, rfl⟩ : ∃ n', fu = n' + 1 := ⟨fu - 1, by omega⟩
    refine ⟨w, ?_, but_rf w⟩
    unfold L_X11_liftAll_60
    rw [if_pos (nI_le (by omega) (by omega))]
    rfl
  | succ s ih =>
    intro j fu R w hj hf hs h0 hr
    obtain ⟨fu, rfl⟩ : ∃ n', fu = n' + 1 := ⟨fu - 1, by omega⟩
    have hR0 : R 0 < 2000 ∨ True := Or.inr trivial
    have hb : ∀ k, k < 21 → (fun k => if k = 0 then 0 else R k) k < 2000 := fun k hk => by
      simp only
      by_cases e : k = 0
      · rw [if_pos e]; omega
      · rw [if_neg e]
        by_cases e2 : k ≤ n
        · have := sum_le1 (R := R) n k (by omega) e2
          omega
        · rw [h0 k (by omega)]; omega
    have hr' : tlC w (fun k => if k = 0 then 0 else R k) := fun k h1 h2 => by
      simp only
      rw [if_neg (by omega)]
      exact hr k h1 h2
    have hfe : ∀ m i, 1 ≤ i → feF (fun k => if k = 0 then 0 else R k) m i = feF R m i := by
      intro m
      induction m with
      | zero => intro i _; rfl
      | succ m ih2 =>
        intro i h1
        have hv : (fun k => if k = 0 then 0 else R k) i = R i := if_neg (by omega)
        show (if (fun k => if k = 0 then 0 else R k) i = i then some i else feF (fun k => if k = 0 then 0 else R k) m (i + 1)) = if R i = i then some i else feF R m (i + 1)
        by_cases e : R i = i
        · exact (if_pos (hv.trans e)).trans (if_pos e).symm
        · exact (if_neg (fun z => e (hv.symm.trans z))).trans ((ih2 (i + 1) (by omega)).trans (if_neg e).symm)
    have hext : feF R 20 1 = feF R n 1 := by
      have := feF_ext (R := R) (d := 20 - n) n 1 (fun k h1 h2 => by rw [h0 k (by omega)]; omega)
      rw [← this, show n + (20 - n) = 20 by omega]
    obtain ⟨l1, l2⟩ := c_least hr' hb
    rw [hfe 20 1 (by decide), hext] at l1 l2
    unfold L_X11_liftAll_60 cmL
    rw [if_neg (nI_ge (by omega) (by omega))]
    cases hf1 : feF R n 1 with
    | none =>
      rw [l1 hf1, bc_eq, if_pos rfl]
      exact ⟨w, rfl, but_rf w⟩
    | some i =>
      obtain ⟨a, b, c, -⟩ := feF_some _ _ _ hf1
      have hsl := (lifT_sum a c n).2 (by omega)
      obtain ⟨w1, e1, b1, r1⟩ := l2 i hf1
      obtain ⟨w2, e2, b2⟩ := ih (j + 1) fu (lifT R i) w1 (by omega) (by omega) (by omega) (fun k hk => by
        unfold lifT
        rw [if_neg (by omega), if_neg (by omega)]
        exact h0 k hk) (fun k h1 h2 => by
        rw [r1 k h1 h2]
        unfold lifT
        simp only
        rw [if_neg (show ¬ k = 0 by omega)])
      rw [e1, bc_eq, if_neg (by decide), bd_eq, nI_1]
      refine ⟨w2, ?_, but_tr b1 b2⟩
      rw [e2]
      simp only
      rw [show j + 1 + (cmL n s (lifT R i)).1 = j + ((cmL n s (lifT R i)).1 + 1) by omega]
/-! the reference lifts -/
def tlM (u : Wd) (n : Nat) (R : Nat → Nat) : Prop := ∀ k, 1 ≤ k → k ≤ n → u.1 151 k = nI (R k)
theorem m_upl {k31 : Wd → Option (Int32 × Wd)} {x28 x29 : Int32} {R : Nat → Nat} {i : Nat} (hn : n ≤ 20) (hi : i ≤ n) : ∀ (m j fu : Nat) (u : Wd), m + j = i → m < fu → 1 ≤ j → tlM u n (fun k => if k = i then 0 else if 1 ≤ k ∧ k < j then R k + 1 else R k) → ∃ u1, L_X12_comes_103 x28 x29 (nI i) k31 fu (nI j) u = k31 u1 ∧ sameR [151] [] [] [] u u1 ∧ tlM u1 n (lifT R i) := by
  intro m
  induction m with
  | zero =>
    intro j fu u hj hf h1 hr
    obtain ⟨fu, rfl⟩ : ∃ n', fu = n' + 1 := ⟨fu - 1, by omega⟩
    have : j = i := by omega
    subst this
    refine ⟨u, ?_, sameR_rf u, hr⟩
    unfold L_X12_comes_103
    rw [if_pos (nI_le (Nat.le_refl _) (by omega))]
  | succ m ih =>
    intro j fu u hj hf h1 hr
    obtain ⟨fu, rfl⟩ : ∃ n', fu = n' + 1 := ⟨fu - 1, by omega⟩
    have hv : u.1 151 j = nI (R j) := by
      rw [hr j h1 (by omega)]
      simp only
      rw [if_neg (by omega), if_neg (by omega)]
    obtain ⟨u1, e1, b1, r1⟩ := ih (j + 1) fu (wI u 151 j (nI (R j + 1))) (by omega) (by omega) (by omega) (fun k hk1 hk2 => by
      by_cases e : k = j
      · subst e
        rw [wI_at]
        simp only
        rw [if_neg (by omega), if_pos (by omega)]
      · rw [wI_at_ne e, hr k hk1 hk2]
        simp only
        by_cases e2 : k = i
        · rw [if_pos e2, if_pos e2]
        · rw [if_neg e2, if_neg e2]
          by_cases e3 : k < j
          · rw [if_pos ⟨hk1, e3⟩, if_pos ⟨hk1, by omega⟩]
          · rw [if_neg (by omega), if_neg (by omega)])
    refine ⟨u1, ?_, sameR_tr (sameR_r (by simp) (by decide)) b1, r1⟩
    unfold L_X12_comes_103
    rw [if_neg (nI_ge (by omega) (by omega)), if_pos (ib_nI (by omega) (by decide)), if_pos (ib_nI (by omega) (by decide)), bd_eq, bd_eq, nI_clamp (by omega), hv, nI_1, nI_1, e1]
theorem m_lifts {k22 : Int32 → Wd → Option (Int32 × Wd)} (hn : n ≤ 20) : ∀ (s j m i fu : Nat) (R : Nat → Nat) (u : Wd), j + s < 1000 → m + i = n + 1 → s * (n + 2) + m < fu → 1 ≤ i → sumS R 1 n = s → (∀ k, n < k → R k = 0) → (∀ k, 1 ≤ k → k < i → R k ≠ k) → tlM u n R → ∃ u1, L_X12_comes_72 (nI n) k22 fu (nI j) (nI i) u = k22 (nI (j + (cmL n s R).1)) u1 ∧ sameR [151] [] [] [] u u1 ∧ tlM u1 n (cmL n s R).2 := by
  intro s
  induction s with
  | zero =>
    intro j m
    induction m with
    | zero =>
      intro i fu R u hj hi hf h1 hs h0 hne hr
      obtain ⟨fu, rfl⟩ : ∃ n', fu = n' + 1 := ⟨fu - 1, by omega⟩
      refine ⟨u, ?_, sameR_rf u, hr⟩
      unfold L_X12_comes_72
      rw [if_pos (nI_lt (by omega) (by omega))]
      rfl
    | succ m ih =>
      intro i fu R u hj hi hf h1 hs h0 hne hr
      obtain ⟨fu, rfl⟩ : ∃ n', fu = n' + 1 := ⟨fu - 1, by omega⟩
      have hz := sum_le1 (R := R) n i h1 (by omega)
      have hRi : R i = 0 := by omega
      unfold L_X12_comes_72
      rw [if_neg (nI_nlt (by omega) (by omega)), if_pos (ib_nI (by omega) (by decide)), nI_clamp (by omega), hr i h1 (by omega), hRi, if_neg (by rw [nI_eq (by omega) (by omega)]; omega), bd_eq, nI_1]
      exact ih (i + 1) fu R u hj (by omega) (by omega) (by omega) hs h0 (fun k a b => by
        by_cases e : k = i
        · rw [e, hRi]; omega
        · exact hne k a (by omega)) hr
  | succ s ihs =>
    intro j m
    induction m with
    | zero =>
      intro i fu R u hj hi hf h1 hs h0 hne hr
      obtain ⟨fu, rfl⟩ : ∃ n', fu = n' + 1 := ⟨fu - 1, by omega⟩
      have hnone : feF R n 1 = none := by
        cases hf1 : feF R n 1 with
        | none => rfl
        | some q =>
          obtain ⟨a, b, c, -⟩ := feF_some _ _ _ hf1
          exact absurd c (hne q a (by omega))
      have ec : cmL n (s + 1) R = (0, R) := by
        unfold cmL
        rw [hnone]
      rw [ec]
      refine ⟨u, ?_, sameR_rf u, hr⟩
      unfold L_X12_comes_72
      rw [if_pos (nI_lt (by omega) (by omega))]
      rfl
    | succ m ih =>
      intro i fu R u hj hi hf h1 hs h0 hne hr
      obtain ⟨fu, rfl⟩ : ∃ n', fu = n' + 1 := ⟨fu - 1, by omega⟩
      have hz := sum_le1 (R := R) n i h1 (by omega)
      by_cases e : R i = i
      · have hfe : feF R n 1 = some i := by
          cases hf1 : feF R n 1 with
          | none => exact absurd e (feF_none _ _ hf1 i h1 (by omega))
          | some q =>
            obtain ⟨a, b, c, d⟩ := feF_some _ _ _ hf1
            by_cases e1 : q < i
            · exact absurd c (hne q a e1)
            · by_cases e2 : i < q
              · exact absurd e (d i h1 e2)
              · rw [show q = i by omega]
        have ec : cmL n (s + 1) R = ((cmL n s (lifT R i)).1 + 1, (cmL n s (lifT R i)).2) := by
          show (match feF R n 1 with | none => (0, R) | some i => ((cmL n s (lifT R i)).1 + 1, (cmL n s (lifT R i)).2)) = _
          rw [hfe]
        have hsl := (lifT_sum h1 e n).2 (by omega)
        have hmul : (s + 1) * (n + 2) = s * (n + 2) + (n + 2) := Nat.succ_mul _ _
        obtain ⟨u1, e1, b1, r1⟩ := m_upl (k31 := J_X12_comes_x126_2 (L_X12_comes_72 (nI n) k22 fu) (nI j)) (x28 := nI n) (x29 := nI j) (R := R) (i := i) hn (by omega) (i - 1) 1 FU (wI u 151 i 0) (by omega) (by unfold FU; omega) (by decide) (fun k hk1 hk2 => by
          simp only
          by_cases e : k = i
          · subst e
            rw [wI_at, if_pos rfl, nI_0]
          · rw [wI_at_ne e, if_neg e, if_neg (by omega)]
            exact hr k hk1 hk2)
        obtain ⟨u2, e2, b2, r2⟩ := ihs (j + 1) n 1 fu (lifT R i) u1 (by omega) (by omega) (by omega) (by decide) (by omega) (fun k hk => by
          unfold lifT
          rw [if_neg (by omega), if_neg (by omega)]
          exact h0 k hk) (fun k a b => by omega) r1
        rw [ec]
        refine ⟨u2, ?_, sameR_tr (sameR_tr (sameR_r (by simp) (by decide)) b1) b2, r2⟩
        unfold L_X12_comes_72
        rw [if_neg (nI_nlt (by omega) (by omega)), if_pos (ib_nI (by omega) (by decide)), nI_clamp (by omega), hr i h1 (by omega), if_pos (by rw [e]), if_pos (ib_nI (by omega) (by decide)), bd_eq, nI_1', e1]
        unfold J_X12_comes_x126_2
        rw [bd_eq, nI_1, nI_1', e2]
        simp only
        rw [show j + 1 + (cmL n s (lifT R i)).1 = j + ((cmL n s (lifT R i)).1 + 1) by omega]
      · obtain ⟨u1, e1, b1, r1⟩ := ih (i + 1) fu R u hj (by omega) (by omega) (by omega) hs h0 (fun k a b => by
          by_cases ek : k = i
          · rw [ek]; exact e
          · exact hne k a (by omega)) hr
        refine ⟨u1, ?_, b1, r1⟩
        unfold L_X12_comes_72
        rw [if_neg (nI_nlt (by omega) (by omega)), if_pos (ib_nI (by omega) (by decide)), nI_clamp (by omega), hr i h1 (by omega), if_neg (by rw [nI_eq (by omega) (by omega)]; exact e), bd_eq, nI_1]
        exact e1
theorem m_sumrow {k44 : Int32 → Wd → Option (Int32 × Wd)} {x43 : Int32} {R : Nat → Nat} (hn : n ≤ 20) (hs : sumS R 1 n < 1000) (hr : tlM u n R) : ∀ (m i fu : Nat), m + i = n → m < fu → L_X12_comes_140 (nI n) x43 k44 fu (nI (sumS R 1 i)) (nI (i + 1)) u = k44 (nI (sumS R 1 n)) u := by
  intro m
  induction m with
  | zero =>
    intro i fu hi hf
    obtain ⟨fu, rfl⟩ : ∃ n', fu = n' + 1 := ⟨fu - 1, by omega⟩
    unfold L_X12_comes_140
    rw [if_pos (nI_lt (by omega) (by omega)), show i = n by omega]
  | succ m ih =>
    intro i fu hi hf
    obtain ⟨fu, rfl⟩ : ∃ n', fu = n' + 1 := ⟨fu - 1, by omega⟩
    unfold L_X12_comes_140
    rw [if_neg (nI_nlt (by omega) (by omega)), if_pos (ib_nI (by omega) (by decide)), nI_clamp (by omega), hr (i + 1) (by omega) (by omega), nI_add, bd_eq, bd_eq, nI_1]
    have e : sumS R 1 (i + 1) = sumS R 1 i + R (1 + i) := rfl
    rw [Nat.add_comm 1 i] at e
    rw [← e]
    exact ih (i + 1) fu (by omega) (by omega)
end LC
/-! the signs of THE TEXT are read -/
def crN (tx : List Nat) : Nat := if tx.length = 0 then 1 else min tx.length 20
def crW (tx : List Nat) : Option Nat := match bdW tx (crN tx) 0 with | some j => some j | none => if 20 < tx.length then some 20 else none
def crR (tx : List Nat) : Nat → Nat := fun k => if 1 ≤ k ∧ k ≤ tx.length then tx.getD (k - 1) 300 - 48 else 0
section RC
variable {w u : Wd} {tx : List Nat}
theorem crN_le : crN tx ≤ 20 ∧ 1 ≤ crN tx := by
  unfold crN
  split <;> omega
theorem crW_le {j : Nat} (h : crW tx = some j) : j ≤ 20 := by
  unfold crW at h
  have := crN_le (tx := tx)
  cases hb : bdW tx (crN tx) 0 with
  | some i =>
    rw [hb] at h
    cases h
    have := bdW_some _ _ _ hb
    omega
  | none =>
    rw [hb] at h
    simp only at h
    split at h
    · cases h
      omega
    · cases h
theorem crW_none (h : crW tx = none) : 1 ≤ tx.length ∧ tx.length ≤ 20 ∧ bdW tx tx.length 0 = none := by
  unfold crW at h
  cases hb : bdW tx (crN tx) 0 with
  | some i =>
    rw [hb] at h
    cases h
  | none =>
    rw [hb] at h
    simp only at h
    have h20 : ¬ 20 < tx.length := fun z => by rw [if_pos z] at h; cases h
    have h0 : tx.length ≠ 0 := by
      intro z
      have hn : crN tx = 1 := if_pos z
      rw [hn] at hb
      have := bdW_none _ _ hb 0 (Nat.le_refl _) (by decide)
      rw [getD_ge (by omega)] at this
      omega
    have hn : crN tx = tx.length := by
      unfold crN
      rw [if_neg h0]
      omega
    rw [hn] at hb
    exact ⟨by omega, by omega, hb⟩
theorem c_crloop (h : textC w tx) (hl : tx.length ≤ 80) (hx : ∀ x ∈ tx, x < 256) (h0 : tx.length ≠ 0) : ∀ (n i fu : Nat), n + i = min tx.length 20 → n < fu → L_X11_wrongInRow_2 J_X11_wrongInRow_x30_1 J_X11_wrongInRow_x38_2 fu (nI i) w = some ((match bdW tx n i with | some j => nI j | none => if 20 < tx.length then nI 20 else -1), w) := by
  intro n
  induction n with
  | zero =>
    intro i fu hi hf
    obtain ⟨fu, rfl⟩ : ∃ n', fu = n' + 1 := ⟨fu - 1, by omega⟩
    unfold L_X11_wrongInRow_2
    rw [h.1]
    by_cases c1 : tx.length ≤ i
    · rw [if_pos (nI_le c1 (by omega))]
      unfold J_X11_wrongInRow_x38_2
      rw [h.1, if_neg (by rw [nI_z (by omega)]; exact h0)]
      show _ = some (if 20 < tx.length then nI 20 else -1, w)
      rw [if_neg (by omega)]
    · rw [if_neg (nI_ge (by omega) (by omega)), show (20 : Int32) = nI 20 from by decide +kernel, if_pos (by rw [show i = 20 by omega])]
      show some (nI i, w) = some (if 20 < tx.length then nI 20 else -1, w)
      rw [if_pos (by omega), show i = 20 by omega]
  | succ n ih =>
    intro i fu hi hf
    obtain ⟨fu, rfl⟩ : ∃ n', fu = n' + 1 := ⟨fu - 1, by omega⟩
    unfold L_X11_wrongInRow_2 bdW
    rw [h.1, if_neg (nI_ge (by omega) (by omega)), show (20 : Int32) = nI 20 from by decide +kernel, if_neg (by rw [nI_eq (by omega) (by omega)]; omega), c_digitAt h hl hx (by omega), bc_eq]
    by_cases c1 : 48 ≤ tx.getD i 300 ∧ tx.getD i 300 < 58
    · rw [if_pos c1, if_pos c1, if_pos (nI_pos' (by omega)), bd_eq, nI_1, ih (i + 1) fu (by omega) (by omega)]
    · rw [if_neg c1, if_neg c1, if_neg (by decide)]
      rfl
theorem c_wrongR (h : textC w tx) (hl : tx.length ≤ 80) (hx : ∀ x ∈ tx, x < 256) : D_X11_wrongInRow w = some ((match crW tx with | some j => nI j | none => -1), w) := by
  unfold D_X11_wrongInRow
  by_cases h0 : tx.length = 0
  · have hn : crN tx = 1 := if_pos h0
    have hw : crW tx = some 0 := by
      unfold crW
      rw [hn]
      have : bdW tx 1 0 = some 0 := by
        unfold bdW
        rw [getD_ge (by omega), if_neg (by omega)]
      rw [this]
    rw [hw, show FU = (FU - 1) + 1 by unfold FU; rfl]
    unfold L_X11_wrongInRow_2
    rw [h.1, h0, if_pos (by decide)]
    unfold J_X11_wrongInRow_x38_2
    rw [h.1, h0, if_pos (by decide)]
    exact congrArg (fun x => some (x, w)) nI_0.symm
  · have := c_crloop h hl hx h0 (min tx.length 20) 0 FU (by omega) (by unfold FU; omega)
    rw [nI_0] at this
    have hn : crN tx = min tx.length 20 := if_neg h0
    rw [this]
    unfold crW
    rw [hn]
    cases hb : bdW tx (min tx.length 20) 0 with
    | some j => rfl
    | none =>
      simp only
      by_cases c1 : 20 < tx.length
      · rw [if_pos c1, if_pos c1]
      · rw [if_neg c1, if_neg c1]
theorem m_crloop {k3 : Int32 → Wd → Option (Int32 × Wd)} (hx : ∀ x ∈ tx, x < 256) : ∀ (n i fu : Nat) (u : Wd), n + i = crN tx → n + 1 < fu → rdT u 20 tx → u.1 119 11 = nI i → u.1 119 12 = -1 → (∀ k, 1 ≤ k → k ≤ i → u.1 151 k = nI (tx.getD (k - 1) 300 - 48)) → ∃ X u1, L_X12_comes_13 k3 fu (nI i) u = k3 X u1 ∧ sameR [151] [11, 12] [] [] u u1 ∧ (bdW tx n i = none → X = nI (crN tx) ∧ u1.1 119 11 = nI (crN tx) ∧ u1.1 119 12 = -1 ∧ ∀ k, 1 ≤ k → k ≤ crN tx → u1.1 151 k = nI (tx.getD (k - 1) 300 - 48)) ∧ ∀ j, bdW tx n i = some j → u1.1 119 12 = nI j ∧ u1.1 119 11 = nI j := by
  have hN := crN_le (tx := tx)
  have h48 : (48 : Int32) = nI 48 := by decide +kernel
  have h10 : (10 : Int32) = nI 10 := by decide +kernel
  intro n
  induction n with
  | zero =>
    intro i fu u hi hf H ha hfi ht
    obtain ⟨fu, rfl⟩ : ∃ n', fu = n' + 1 := ⟨fu - 1, by omega⟩
    have hi0 : ¬ nI i = 0 := by rw [nI_z (by omega)]; omega
    have e300 : cT 20 tx i = 300 := by
      unfold cT
      by_cases c1 : i < 20
      · rw [if_pos c1]
        apply getD_ge
        have : crN tx = if tx.length = 0 then 1 else min tx.length 20 := rfl
        split at this <;> omega
      · rw [if_neg c1]
    refine ⟨nI i, u, ?_, sameR_rf u, fun _ => ⟨by rw [show i = crN tx by omega], by rw [ha, show i = crN tx by omega], hfi, fun k h1 h2 => ht k h1 (by omega)⟩, fun j hj => by cases hj⟩
    unfold L_X12_comes_13
    rw [fine_y hfi, bc_eq, if_neg (by decide), bd_eq, if_neg hi0, here_T H ha (by omega), bc_eq, e300, if_pos (by decide)]
  | succ n ih =>
    intro i fu u hi hf H ha hfi ht
    obtain ⟨fu, rfl⟩ : ∃ n', fu = n' + 1 := ⟨fu - 1, by omega⟩
    have e20 : cT 20 tx i = tx.getD i 300 := if_pos (by omega)
    have ho := oneOf_T H ha hfi (by omega) (a := 48) (m := 10) (by decide) (by decide) (by decide)
    rw [e20] at ho
    -- the piece for one sign is reached
    have hgo : L_X12_comes_13 k3 (fu + 1) (nI i) u = J_X12_comes_j32_1 (L_X12_comes_13 k3 fu) (nI i) u := by
      generalize hR : L_X12_comes_13 k3 fu = R
      unfold L_X12_comes_13
      rw [fine_y hfi, bc_eq, if_neg (by decide), bd_eq, hR]
      by_cases h0 : i = 0
      · rw [if_pos (by rw [h0]; exact nI_0)]
      · have hne : ¬ hv (cT 20 tx i) = -1 := by
          rw [e20]
          have hlt : tx.getD i 300 < 256 := by
            have : crN tx = if tx.length = 0 then 1 else min tx.length 20 := rfl
            split at this
            · omega
            · exact hx _ (List.mem_of_getElem? (getD_lt (by omega)))
          rw [show hv (tx.getD i 300) = nI (tx.getD i 300) from if_pos hlt]
          intro z
          have := congrArg Int32.toInt z
          rw [nI_toInt (by omega)] at this
          have h2 : (-1 : Int32).toInt = -1 := by decide
          omega
        rw [if_neg (by rw [nI_z (by omega)]; exact h0), here_T H ha (by omega), bc_eq, if_neg hne]
    rw [hgo]
    unfold J_X12_comes_j32_1
    by_cases c1 : 48 ≤ tx.getD i 300 ∧ tx.getD i 300 < 58
    · rw [if_pos c1] at ho
      have s1 : sameR [151] [11, 12] [] [] u (wI (wI u 119 11 (nI (i + 1))) 151 (i + 1) (nI (tx.getD i 300 - 48))) := sameR_tr (sameR_f (by simp)) (sameR_r (by simp) (by decide))
      obtain ⟨X, u1, g1, g2, g3, g4⟩ := ih (i + 1) fu _ (by omega) (by omega) (rdT_same H s1 (by decide) (by decide) (by decide) (by simp)) (by rw [wI_r (by decide), wI_at]) (by rw [wI_r (by decide), wI_at_ne (by decide)]; exact hfi) (fun k h1 h2 => by
        by_cases e : k = i + 1
        · subst e
          exact wI_at
        · rw [wI_at_ne e, wI_r (by decide)]
          exact ht k h1 (by omega))
      have e : bdW tx (n + 1) i = bdW tx n (i + 1) := if_pos c1
      rw [e]
      refine ⟨X, u1, ?_, sameR_tr s1 g2, g3, g4⟩
      rw [h48, h10, ho, bc_eq, nI_1, if_pos (ib_nI (by omega) (by decide)), bd_eq, bd_eq, nI_clamp (by omega), g1]
    · rw [if_neg c1] at ho
      have e : bdW tx (n + 1) i = some i := if_neg c1
      rw [e]
      obtain ⟨fu, rfl⟩ : ∃ n', fu = n' + 1 := ⟨fu - 1, by omega⟩
      refine ⟨nI (i + 1), wI (wI u 119 12 (nI i)) 151 (i + 1) 0, ?_, sameR_tr (sameR_f (by simp)) (sameR_r (by simp) (by decide)), fun h => by (cases h), fun j hj => ?_⟩
      · have f12 : (wI (wI u 119 12 (nI i)) 151 (i + 1) 0).1 119 12 = nI i := by rw [wI_r (by decide), wI_at]
        rw [h48, h10, ho, bc_eq, nI_1, if_pos (ib_nI (by omega) (by decide)), bd_eq, bd_eq, nI_clamp (by omega)]
        unfold L_X12_comes_13
        rw [fine_n f12 (by omega), bc_eq, if_pos rfl]
      · cases hj
        exact ⟨by rw [wI_r (by decide), wI_at], by rw [wI_r (by decide), wI_at_ne (by decide)]; exact ha⟩
end RC
section TC
variable {w u : Wd} {tx : List Nat}
theorem crR_sum (h : bdW tx tx.length 0 = none) : ∀ n, n ≤ tx.length → sumS (crR tx) 1 n ≤ 9 * n := by
  intro n
  induction n with
  | zero => intro _; exact Nat.le_refl _
  | succ n ih =>
    intro hn
    have e : sumS (crR tx) 1 (n + 1) = sumS (crR tx) 1 n + crR tx (1 + n) := rfl
    have h1 := bdW_none _ _ h n (Nat.zero_le _) (by omega)
    have e2 : crR tx (1 + n) = tx.getD n 300 - 48 := by
      unfold crR
      rw [if_pos (by omega), show 1 + n - 1 = n by omega]
    have := ih (by omega)
    rw [e, e2]
    omega
theorem c_fill {k2 : Int32 → Wd → Option (Int32 × Wd)} (hx : ∀ x ∈ tx, x < 256) (hl : tx.length ≤ 20) (hb : bdW tx tx.length 0 = none) : ∀ (n i fu : Nat) (w : Wd), n + i = tx.length → n < fu → textC w tx → (∀ k, 1 ≤ k → k < 21 → w.1 118 k = nI (if k ≤ i then crR tx k else 0)) → ∃ w1, L_X11_liftAll_8 k2 fu (nI (sumS (crR tx) 1 i)) (nI i) w = k2 (nI (sumS (crR tx) 1 tx.length)) w1 ∧ but [118] w w1 ∧ tlC w1 (crR tx) := by
  intro n
  induction n with
  | zero =>
    intro i fu w hi hf ht hr
    obtain ⟨fu, rfl⟩ : ∃ n', fu = n' + 1 := ⟨fu - 1, by omega⟩
    refine ⟨w, ?_, but_rf w, fun k h1 h2 => ?_⟩
    · unfold L_X11_liftAll_8
      rw [ht.1, if_pos (nI_le (by omega) (by omega)), show i = tx.length by omega]
    · rw [hr k h1 h2]
      by_cases e : k ≤ i
      · rw [if_pos e]
      · rw [if_neg e]
        unfold crR
        rw [if_neg (by omega)]
  | succ n ih =>
    intro i fu w hi hf ht hr
    obtain ⟨fu, rfl⟩ : ∃ n', fu = n' + 1 := ⟨fu - 1, by omega⟩
    have hd := bdW_none _ _ hb i (Nat.zero_le _) (by omega)
    have e2 : crR tx (i + 1) = tx.getD i 300 - 48 := by
      unfold crR
      rw [if_pos (by omega), Nat.add_sub_cancel]
    have ht1 : textC (wI w 118 (i + 1) (nI (tx.getD i 300 - 48))) tx := ⟨by rw [wI_r (by decide)]; exact ht.1, fun j x hj => by rw [wI_r (by decide)]; exact ht.2 j x hj⟩
    have dg := c_digitAt (i := i) ht (by omega) hx (by omega)
    have dg1 := c_digitAt (i := i) ht1 (by omega) hx (by omega)
    rw [if_pos hd] at dg dg1
    obtain ⟨w1, e1, b1, r1⟩ := ih (i + 1) fu _ (by omega) (by omega) ht1 (fun k h1 h2 => by
      by_cases e : k = i + 1
      · subst e
        rw [wI_at, if_pos (by omega), e2]
      · rw [wI_at_ne e, hr k h1 h2]
        by_cases e3 : k ≤ i
        · rw [if_pos e3, if_pos (by omega)]
        · rw [if_neg e3, if_neg (by omega)])
    have es : sumS (crR tx) 1 (i + 1) = sumS (crR tx) 1 i + crR tx (1 + i) := rfl
    rw [Nat.add_comm 1 i, e2] at es
    refine ⟨w1, ?_, but_tr (but_wI (by simp)) b1, r1⟩
    unfold L_X11_liftAll_8
    rw [ht.1, if_neg (nI_ge (by omega) (by omega)), show (20 : Int32) = nI 20 from by decide +kernel, if_neg (nI_ge (by omega) (by omega)), dg, bc_eq, nI_1, if_pos (ib_nI (by omega) (by decide)), bd_eq, nI_clamp (by omega), dg1, bc_eq, bd_eq, bd_eq, nI_add, ← es, e1]
end TC
theorem t_comes : Two D_X11_comes D_X12_comes := by
  intro w c L P hs tx rl cd V kp cl si rw B hBB m ok okr
  obtain ⟨hl, hx⟩ := ok.2.2.2.2.2.1
  have ht := m.2.2.2.2.1
  have hw := c_wrongR ht hl hx
  have hN := crN_le (tx := tx)
  have t1 : ∀ v : Wd, textC (wI v 80 1 0) [] := fun v => ⟨by rw [wI_at]; rfl, fun i x h => by simp at h⟩
  have hM : ∀ u, MR u c L P hs tx rl kp cl si rw → ∃ u1 X, D_X12_comes u = J_X12_comes_x54_5 X u1 ∧ MR u1 c L P hs [] rl kp cl si rw ∧ onM u u1 ∧ rdT u1 20 tx ∧ (bdW tx (crN tx) 0 = none → X = nI (crN tx) ∧ u1.1 119 11 = nI (crN tx) ∧ u1.1 119 12 = -1 ∧ ∀ k, 1 ≤ k → k ≤ crN tx → u1.1 151 k = nI (tx.getD (k - 1) 300 - 48)) ∧ ∀ j, bdW tx (crN tx) 0 = some j → u1.1 119 12 = nI j ∧ u1.1 119 11 = nI j := by
    intro u n
    have v := n.2.2.2.2.1
    obtain ⟨u1, e1, H1, a1, f1, tt, s1⟩ := begin_T (u := wI u 119 7 0) (T := 20) ⟨by rw [wI_at_ne (by decide)]; exact v.1, fun i x hi => by rw [wI_r (by decide)]; exact v.2 i x hi⟩ hl hx (by decide)
    obtain ⟨n1, o1⟩ := MR_text n (sameR_tr (sameR_f (k := 7) (v := 0) (by simp)) (sameR_sub s1 (by simp) (by decide) (by simp) (by simp))) tt
    obtain ⟨X, u2, g2, s2, g3, g4⟩ := m_crloop (k3 := J_X12_comes_x54_5) hx (crN tx) 0 FU u1 (by omega) (by unfold FU; omega) H1 a1 f1 (fun k h1 h2 => by omega)
    rw [nI_0] at g2
    obtain ⟨n2, o2⟩ := MR_q0 n1 (qM_sub (qM_any (F := [11, 12]) (T := []) s2 (by decide) (by decide) (by simp)) (by decide) (by simp))
    refine ⟨u2, X, ?_, n2, onM_tr o1 o2, rdT_same H1 s2 (by decide) (by decide) (by decide) (by simp), g3, g4⟩
    unfold D_X12_comes
    rw [bd_eq, show (20 : Int32) = nI 20 from by decide +kernel, e1, bv_eq, g2]
  cases hcr : crW tx with
  | some j =>
    have hj := crW_le hcr
    rw [hcr] at hw
    obtain ⟨k1, k2⟩ := CR_text m (same_wI (by simp)) (t1 w)
    have hne : ¬ nI j = -1 := by
      intro z
      have := congrArg Int32.toInt z
      rw [nI_toInt (by omega)] at this
      have h2 : (-1 : Int32).toInt = -1 := by decide
      omega
    refine ⟨-1 - nI j, c, L, P, hs, [], rl, cd, V, kp, cl, si, rw, okS_text hBB ok (by simp) (by simp), okr, ⟨_, ?_, k1, k2⟩, fun u n hcm => ?_⟩
    · unfold D_X11_comes
      rw [hw]
      simp only
      rw [bc_eq, if_neg hne, bd_eq]
      unfold D_X9_clear
      rw [bd_eq, bv_eq]
    · obtain ⟨u1, X, g1, n1, o1, H1, g3, g4⟩ := hM u n
      rw [g1]
      unfold J_X12_comes_x54_5
      unfold crW at hcr
      cases hb : bdW tx (crN tx) 0 with
      | some i =>
        rw [hb] at hcr
        cases hcr
        obtain ⟨f12, f11⟩ := g4 j hb
        refine ⟨u1, ?_, n1, came_on hcm o1⟩
        rw [(right_T H1 f11 (by omega)).2.2 j (by omega) f12, bc_eq, if_pos rfl, f12]
      | none =>
        rw [hb] at hcr
        simp only at hcr
        by_cases h20 : 20 < tx.length
        · rw [if_pos h20] at hcr
          cases hcr
          obtain ⟨-, f11, f12, -⟩ := g3 hb
          have hn20 : crN tx = 20 := by
            unfold crN
            rw [if_neg (by omega)]
            omega
          rw [hn20] at f11
          obtain ⟨n2, o2⟩ := MR_q0 n1 (qM_f (k := 12) (v := nI 20) (by decide))
          refine ⟨wI u1 119 12 (nI 20), ?_, n2, came_on hcm (onM_tr o1 o2)⟩
          rw [(right_T H1 f11 (by omega)).2.1 f12 h20, bc_eq, if_pos rfl, wI_at]
        · rw [if_neg h20] at hcr
          cases hcr
  | none =>
    obtain ⟨h1, h20, hb⟩ := crW_none hcr
    rw [hcr] at hw
    have hn : crN tx = tx.length := by
      unfold crN
      rw [if_neg (by omega)]
      omega
    have hs9 := crR_sum hb tx.length (Nat.le_refl _)
    have h0 : ∀ k, tx.length < k → crR tx k = 0 := fun k hk => by
      unfold crR
      rw [if_neg (by omega)]
    obtain ⟨w1, e1, r1, b1⟩ := d_clearTally w
    have ht1 : textC w1 tx := textC_same ht (same_but (T := []) b1) (by decide) (by decide)
    obtain ⟨w2, e2, b2, r2⟩ := c_fill (k2 := J_X11_liftAll_x58_2) hx h20 hb tx.length 0 FU w1 (by omega) (by unfold FU; omega) ht1 (fun k a b => by rw [r1 k b, if_neg (by omega), nI_0])
    rw [show sumS (crR tx) 1 0 = 0 from rfl, nI_0] at e2
    generalize hS : sumS (crR tx) 1 tx.length = S at e2 hs9
    obtain ⟨w3, e3, b3⟩ := c_lifts (k17 := J_X11_liftAll_x78_1 (nI S)) (n := tx.length) h20 (S := S) (by omega) S 0 FU (crR tx) w2 (by omega) (by unfold FU; omega) hS h0 r2
    obtain ⟨q1, q2⟩ := cmL_ok (n := tx.length) S (crR tx) hS h0
    rw [Nat.zero_add, nI_0] at e3
    generalize hm : (cmL tx.length S (crR tx)).1 = M at e3 q1
    generalize hr : sumS (cmL tx.length S (crR tx)).2 1 tx.length = Lf at q1
    obtain ⟨w4, t2, t3, t4⟩ := d_tell2 w3 (nI M).toInt64 (nI Lf).toInt64
    have q0 : qC EC0 [] w w3 := qC_hi (E' := [118]) (T' := []) (same_but (but_tr b1 (but_tr b2 b3))) (by decide) (by decide) (by simp)
    obtain ⟨k1, k2⟩ := CR_q m (qC_tr (qC_up q0) (qC_hi t4 (by decide) (by decide) (by decide))) t3
    obtain ⟨k3, k4⟩ := CR_text k1 (same_wI (k := 1) (v := 0) (by simp)) (t1 w4)
    have ok' := okS_text (tx' := []) hBB ok (by simp) (by simp)
    have ok'' : okS c L P hs [] kp cl si [(nI M).toInt64, (nI Lf).toInt64] (B + 108) := by
      obtain ⟨o1, o2, o3, o4, o5, o6, o7, o8, o9, -, o11⟩ := ok'
      exact ⟨o1, o2, o3, o4, o5, o6, o7, o8, o9, by simp, o11⟩
    refine ⟨nI M, c, L, P, hs, [], rl, cd, V, kp, cl, si, _, ok'', okr, ⟨_, ?_, k3, onC_tr k2 k4⟩, fun u n hcm => ?_⟩
    · unfold D_X11_comes
      rw [hw]
      simp only
      rw [bc_eq, if_pos rfl]
      unfold D_X11_liftAll
      rw [e1, bv_eq, e2]
      unfold J_X11_liftAll_x58_2
      rw [e3]
      unfold J_X11_liftAll_x78_1
      rw [pk_sub (by omega), show S - M = Lf by omega, t2, bv_eq, bc_eq]
      unfold D_X9_clear
      rw [bd_eq, bv_eq]
    · obtain ⟨u1, X, g1, n1, o1, H1, g3, g4⟩ := hM u n
      rw [hn] at g3
      obtain ⟨hX, f11, f12, hrow⟩ := g3 hb
      obtain ⟨u2, g5, s2, r5⟩ := m_lifts (k22 := J_X12_comes_x134_4 (nI tx.length)) (n := tx.length) h20 S 0 tx.length 1 FU (crR tx) u1 (by omega) (by omega) (by
        have : S * (tx.length + 2) ≤ 180 * 22 := Nat.mul_le_mul (by omega) (by omega)
        unfold FU
        omega) (by decide) hS h0 (fun k a b => by omega) (fun k a b => by
        rw [hrow k a b]
        unfold crR
        rw [if_pos ⟨a, b⟩])
      rw [Nat.zero_add, nI_0, ← nI_1', hm] at g5
      have g6 := m_sumrow (u := u2) (k44 := J_X12_comes_x164_3 (nI M)) (x43 := nI M) h20 (by omega) r5 tx.length 0 FU (by omega) (by unfold FU; omega)
      rw [show sumS (cmL tx.length S (crR tx)).2 1 0 = 0 from rfl, nI_0, Nat.zero_add, ← nI_1', hr] at g6
      obtain ⟨u3, t5, t6, t7⟩ := d_tellM (row0M u2) (by decide) (nI M).toInt64
      obtain ⟨u4, t8, t9, t10⟩ := d_tellM t6 (by simp) (nI Lf).toInt64
      obtain ⟨n3, o3⟩ := MR_q n1 (qM_tr (qM_up (qM_sub (qM_any (F := []) (T := []) s2 (by decide) (by decide) (by simp)) (by simp) (by simp))) (qM_tr (qM_f (k := 6) (v := 0) (by decide)) (qM_tr (qM_tell t7) (qM_tell t10)))) t9
      refine ⟨u4, ?_, n3, came_on hcm (onM_tr o1 o3)⟩
      rw [g1]
      unfold J_X12_comes_x54_5
      rw [(right_T H1 f11 (by omega)).1 f12 (Nat.le_refl _), bc_eq, if_neg (by decide), hX, g5]
      unfold J_X12_comes_x134_4
      rw [g6]
      unfold J_X12_comes_x164_3
      rw [bd_eq, t5, bv_eq, t8, bv_eq]
