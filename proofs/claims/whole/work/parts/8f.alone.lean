/-! alone -/
def unL : Nat → List Nat → List Nat
  | _, [] => []
  | i, x :: xs => if x = 0 then i :: xs else (x - 1) :: unL (i + 1) xs
def fzL : List Nat → Nat
  | [] => 0
  | x :: xs => if x = 0 then 0 else fzL xs + 1
def stL : Nat → List Nat
  | 0 => List.replicate 23 0
  | n + 1 => unL 1 (stL n)
/-- what lies in PIT k behind n SEEDS taken back -/
def aT (n k : Nat) : Nat := (stL n).getD (k - 1) 0
def aE (n : Nat) : Nat := fzL (stL n) + 1
def ndF (n : Nat) : Nat → Nat
  | 0 => 0
  | p + 1 => if aT n (p + 1) = 0 then ndF n p else p + 1
def laM : Nat → Nat
  | 0 => 0
  | n + 1 => max (laM n) (aE n)
theorem a_step : ∀ n, n < 99 → aE n < 20 ∧ aT n (aE n) = 0 ∧ (∀ k, k < aE n → 1 ≤ k → aT n k ≠ 0) ∧ ∀ k, k < 24 → 1 ≤ k → aT (n + 1) k = if k < aE n then aT n k - 1 else if k = aE n then aE n else aT n k := by decide +kernel
theorem a_need : ∀ n, n < 100 → ndF n 20 = laM n ∧ laM n ≤ 20 ∧ ∀ k, k < 24 → aT n k < 100 := by decide +kernel
section AL
variable {w u : Wd}
theorem c_unloop {k1 : Int32 → Wd → Option Wd} {n : Nat} (hn : n < 99) : ∀ (m i fu : Nat) (w : Wd), m + i = aE n → m < fu → 1 ≤ i → (∀ k, 1 ≤ k → k < 21 → w.1 118 k = nI (if k < i then aT n k - 1 else aT n k)) → ∃ w1, L_X11_unsow_2 k1 fu (nI i) w = k1 (nI (aE n)) w1 ∧ but [118] w w1 ∧ ∀ k, 1 ≤ k → k < 21 → w1.1 118 k = nI (if k < aE n then aT n k - 1 else aT n k) := by
  obtain ⟨s1, s2, s3, -⟩ := a_step n hn
  have sv := (a_need n (by omega)).2.2
  intro m
  induction m with
  | zero =>
    intro i fu w hi hf h1 hr
    obtain ⟨fu, rfl⟩ : ∃ n', fu = n' + 1 := ⟨fu - 1, by omega⟩
    have ei : i = aE n := by omega
    refine ⟨w, ?_, but_rf w, fun k hk hk2 => by rw [← ei]; exact hr k hk hk2⟩
    unfold L_X11_unsow_2
    rw [show (20 : Int32) = nI 20 from by decide +kernel, if_neg (nI_ge (by omega) (by decide)), if_pos (ib_nI (by omega) (by decide)), nI_clamp (by omega), hr i h1 (by omega), if_neg (show ¬ i < i by omega), ei, s2, if_pos (by decide)]
  | succ m ih =>
    intro i fu w hi hf h1 hr
    obtain ⟨fu, rfl⟩ : ∃ n', fu = n' + 1 := ⟨fu - 1, by omega⟩
    have hne := s3 i (by omega) h1
    have hv := sv i (by omega)
    obtain ⟨w1, r1, r2, r3⟩ := ih (i + 1) fu (wI w 118 i (nI (aT n i - 1))) (by omega) (by omega) (by omega) (fun k hk hk2 => by
      by_cases e : k = i
      · subst e
        rw [wI_at, if_pos (by omega)]
      · rw [wI_at_ne e, hr k hk hk2]
        by_cases hki : k < i
        · rw [if_pos hki, if_pos (by omega)]
        · rw [if_neg hki, if_neg (by omega)])
    refine ⟨w1, ?_, but_tr (but_wI (by simp)) r2, r3⟩
    unfold L_X11_unsow_2
    rw [show (20 : Int32) = nI 20 from by decide +kernel, if_neg (nI_ge (by omega) (by decide)), if_pos (ib_nI (by omega) (by decide)), nI_clamp (by omega), hr i h1 (by omega), if_neg (show ¬ i < i by omega), if_neg (nI_nle (by omega) (by omega)), if_pos (ib_nI (by omega) (by decide)), if_pos (ib_nI (by omega) (by decide)), bd_eq, bd_eq, nI_1, nI_m1 (by omega), r1]
theorem c_unsow {n : Nat} (hn : n < 99) (hr : ∀ k, 1 ≤ k → k < 21 → w.1 118 k = nI (aT n k)) : ∃ w1, D_X11_unsow w = some w1 ∧ but [118] w w1 ∧ ∀ k, 1 ≤ k → k < 21 → w1.1 118 k = nI (aT (n + 1) k) := by
  obtain ⟨s1, s2, s3, s4⟩ := a_step n hn
  have hE : aE n = fzL (stL n) + 1 := rfl
  obtain ⟨w1, r1, r2, r3⟩ := c_unloop (k1 := J_X11_unsow_x33_1) hn (aE n - 1) 1 FU w (by omega) (by unfold FU; omega) (by decide) (fun k hk hk2 => by rw [hr k hk hk2, if_neg (by omega)])
  refine ⟨wI w1 118 (aE n) (nI (aE n)), ?_, but_tr r2 (but_wI (by simp)), fun k hk hk2 => ?_⟩
  · unfold D_X11_unsow
    rw [nI_1', r1]
    unfold J_X11_unsow_x33_1
    rw [if_pos (ib_nI (by omega) (by decide)), bd_eq, nI_clamp (by omega)]
  · rw [s4 k (by omega) hk]
    by_cases e : k = aE n
    · subst e
      rw [wI_at, if_neg (by omega), if_pos rfl]
    · rw [wI_at_ne e, r3 k hk hk2]
      by_cases h : k < aE n
      · rw [if_pos h, if_pos h]
      · rw [if_neg h, if_neg h, if_neg e]
theorem c_alloop {k3 : Wd → Option (Int32 × Wd)} {N : Nat} (hN : N ≤ 99) : ∀ (m n fu : Nat) (w : Wd), m + n = N → m < fu → (∀ k, 1 ≤ k → k < 21 → w.1 118 k = nI (aT n k)) → ∃ w1, L_X11_alone_18 (nI N) k3 fu (nI n) w = k3 w1 ∧ but [118] w w1 ∧ ∀ k, 1 ≤ k → k < 21 → w1.1 118 k = nI (aT N k) := by
  intro m
  induction m with
  | zero =>
    intro n fu w hn hf hr
    obtain ⟨fu, rfl⟩ : ∃ n', fu = n' + 1 := ⟨fu - 1, by omega⟩
    refine ⟨w, ?_, but_rf w, fun k hk hk2 => by rw [show N = n by omega]; exact hr k hk hk2⟩
    unfold L_X11_alone_18
    rw [if_pos (nI_le (by omega) (by omega))]
  | succ m ih =>
    intro n fu w hn hf hr
    obtain ⟨fu, rfl⟩ : ∃ n', fu = n' + 1 := ⟨fu - 1, by omega⟩
    obtain ⟨w1, e1, b1, r1⟩ := c_unsow (n := n) (by omega) hr
    obtain ⟨w2, e2, b2, r2⟩ := ih (n + 1) fu w1 (by omega) (by omega) r1
    refine ⟨w2, ?_, but_tr b1 b2, r2⟩
    unfold L_X11_alone_18
    rw [if_neg (nI_ge (by omega) (by omega)), e1, bv_eq, bd_eq, nI_1, e2]
theorem c_ndloop {k10 : Int32 → Wd → Option (Int32 × Wd)} {N : Nat} (hN : N ≤ 99) (hr : ∀ k, 1 ≤ k → k < 21 → w.1 118 k = nI (aT N k)) : ∀ (m p fu : Nat), m + p = 20 → m < fu → L_X11_alone_37 k10 fu (nI (ndF N p)) (nI (p + 1)) w = k10 (nI (ndF N 20)) w := by
  have sv := (a_need N (by omega)).2.2
  intro m
  induction m with
  | zero =>
    intro p fu hp hf
    obtain ⟨fu, rfl⟩ : ∃ n', fu = n' + 1 := ⟨fu - 1, by omega⟩
    unfold L_X11_alone_37
    rw [show (20 : Int32) = nI 20 from by decide +kernel, if_pos (nI_lt (by omega) (by omega)), show p = 20 by omega]
  | succ m ih =>
    intro p fu hp hf
    obtain ⟨fu, rfl⟩ : ∃ n', fu = n' + 1 := ⟨fu - 1, by omega⟩
    have hv := sv (p + 1) (by omega)
    have e : ndF N (p + 1) = if aT N (p + 1) = 0 then ndF N p else p + 1 := rfl
    have ih' := ih (p + 1) fu (by omega) (by omega)
    unfold L_X11_alone_37
    rw [show (20 : Int32) = nI 20 from by decide +kernel, if_neg (nI_nlt (by omega) (by decide)), if_pos (ib_nI (by omega) (by decide)), nI_clamp (by omega), hr (p + 1) (by omega) (by omega), bd_eq]
    unfold J_X11_alone_j57_1
    by_cases h0 : aT N (p + 1) = 0
    · rw [if_pos h0] at e
      rw [e] at ih'
      rw [if_pos (by rw [h0]; decide), bd_eq, nI_1]
      exact ih'
    · rw [if_neg h0] at e
      rw [e] at ih'
      rw [if_neg (nI_nle (by omega) (by omega)), bd_eq, nI_1]
      exact ih'
/-- the ROW of PITS 1 to n -/
def alR (N n : Nat) : List Int64 := (List.range n).map (fun i => (nI (aT N (i + 1))).toInt64)
theorem alR_s {N n : Nat} : alR N (n + 1) = alR N n ++ [(nI (aT N (n + 1))).toInt64] := by
  unfold alR
  rw [List.range_succ, List.map_append]
  rfl
theorem alR_len {N n : Nat} : (alR N n).length = n := by
  unfold alR
  simp
theorem c_tlloop {k23 : Wd → Option (Int32 × Wd)} {N M : Nat} (hM : M ≤ 20) : ∀ (m p fu : Nat) (w : Wd), m + p = M → m < fu → (∀ k, 1 ≤ k → k < 21 → w.1 118 k = nI (aT N k)) → rowC w (alR N p) → ∃ w1, L_X11_alone_73 (nI M) k23 fu (nI (p + 1)) w = k23 w1 ∧ same [82] [83] w w1 ∧ rowC w1 (alR N M) := by
  intro m
  induction m with
  | zero =>
    intro p fu w hp hf hr hc
    obtain ⟨fu, rfl⟩ : ∃ n', fu = n' + 1 := ⟨fu - 1, by omega⟩
    refine ⟨w, ?_, same_rf w, by rw [show M = p by omega]; exact hc⟩
    unfold L_X11_alone_73
    rw [if_pos (nI_lt (by omega) (by omega))]
  | succ m ih =>
    intro p fu w hp hf hr hc
    obtain ⟨fu, rfl⟩ : ∃ n', fu = n' + 1 := ⟨fu - 1, by omega⟩
    obtain ⟨w1, e1, r1, s1⟩ := d_add hc (by rw [alR_len]; omega) (nI (aT N (p + 1))).toInt64
    obtain ⟨w2, e2, s2, r2⟩ := ih (p + 1) fu w1 (by omega) (by omega) (fun k hk hk2 => by rw [s1.1 118 (by decide)]; exact hr k hk hk2) (by rw [alR_s]; exact r1)
    refine ⟨w2, ?_, same_tr s1 s2, r2⟩
    unfold L_X11_alone_73
    rw [if_neg (nI_nlt (by omega) (by omega)), if_pos (ib_nI (by omega) (by decide)), nI_clamp (by omega), hr (p + 1) (by omega) (by omega), e1, bv_eq, bd_eq, nI_1, e2]
/-! the reference -/
theorem m_clr {k5 : Wd → Option (Int32 × Wd)} {x4 : Int32} : ∀ (m i fu : Nat) (u : Wd), m + i = 24 → m < fu → (∀ k, k < i → u.1 151 k = 0) → ∃ u1, L_X12_alone_19 x4 k5 fu (nI i) u = k5 u1 ∧ sameR [151] [] [] [] u u1 ∧ ∀ k, k < 24 → u1.1 151 k = 0 := by
  intro m
  induction m with
  | zero =>
    intro i fu u hi hf hr
    obtain ⟨fu, rfl⟩ : ∃ n', fu = n' + 1 := ⟨fu - 1, by omega⟩
    refine ⟨u, ?_, sameR_rf u, fun k hk => hr k (by omega)⟩
    unfold L_X12_alone_19
    rw [show (24 : Int32) = nI 24 from by decide +kernel, if_pos (nI_le (by omega) (by omega))]
  | succ m ih =>
    intro i fu u hi hf hr
    obtain ⟨fu, rfl⟩ : ∃ n', fu = n' + 1 := ⟨fu - 1, by omega⟩
    obtain ⟨u1, r1, r2, r3⟩ := ih (i + 1) fu (wI u 151 i 0) (by omega) (by omega) (fun k hk => by
      by_cases e : k = i
      · subst e; exact wI_at
      · rw [wI_at_ne e]; exact hr k (by omega))
    refine ⟨u1, ?_, sameR_tr (sameR_r (by simp) (by decide)) r2, r3⟩
    unfold L_X12_alone_19
    rw [show (24 : Int32) = nI 24 from by decide +kernel, if_neg (nI_ge (by omega) (by omega)), if_pos (ib_nI (by omega) (by decide)), bd_eq, bd_eq, nI_clamp (by omega), nI_1, r1]
theorem m_unloop {k21 : Int32 → Wd → Option (Int32 × Wd)} {x18 x19 x20 : Int32} {n : Nat} (hn : n < 99) : ∀ (m i fu : Nat) (u : Wd), m + i = aE n → m < fu → 1 ≤ i → (∀ k, 1 ≤ k → k < 24 → u.1 151 k = nI (if k < i then aT n k - 1 else aT n k)) → ∃ u1, L_X12_alone_53 x18 x19 x20 k21 fu (nI i) u = k21 (nI (aE n)) u1 ∧ sameR [151] [] [] [] u u1 ∧ ∀ k, 1 ≤ k → k < 24 → u1.1 151 k = nI (if k < aE n then aT n k - 1 else aT n k) := by
  obtain ⟨s1, s2, s3, -⟩ := a_step n hn
  have sv := (a_need n (by omega)).2.2
  intro m
  induction m with
  | zero =>
    intro i fu u hi hf h1 hr
    obtain ⟨fu, rfl⟩ : ∃ n', fu = n' + 1 := ⟨fu - 1, by omega⟩
    have ei : i = aE n := by omega
    refine ⟨u, ?_, sameR_rf u, fun k hk hk2 => by rw [← ei]; exact hr k hk hk2⟩
    unfold L_X12_alone_53
    rw [if_pos (ib_nI (by omega) (by decide)), nI_clamp (by omega), hr i h1 (by omega), if_neg (show ¬ i < i by omega), ei, s2, if_pos (by decide)]
  | succ m ih =>
    intro i fu u hi hf h1 hr
    obtain ⟨fu, rfl⟩ : ∃ n', fu = n' + 1 := ⟨fu - 1, by omega⟩
    have hne := s3 i (by omega) h1
    have hv := sv i (by omega)
    obtain ⟨u1, r1, r2, r3⟩ := ih (i + 1) fu (wI u 151 i (nI (aT n i - 1))) (by omega) (by omega) (by omega) (fun k hk hk2 => by
      by_cases e : k = i
      · subst e
        rw [wI_at, if_pos (by omega)]
      · rw [wI_at_ne e, hr k hk hk2]
        by_cases hki : k < i
        · rw [if_pos hki, if_pos (by omega)]
        · rw [if_neg hki, if_neg (by omega)])
    refine ⟨u1, ?_, sameR_tr (sameR_r (by simp) (by decide)) r2, r3⟩
    unfold L_X12_alone_53
    rw [if_pos (ib_nI (by omega) (by decide)), nI_clamp (by omega), hr i h1 (by omega), if_neg (show ¬ i < i by omega), if_neg (nI_nle (by omega) (by omega)), if_pos (ib_nI (by omega) (by decide)), if_pos (ib_nI (by omega) (by decide)), bd_eq, bd_eq, nI_1, nI_m1 (by omega), r1]
theorem m_alloop {k13 : Int32 → Wd → Option (Int32 × Wd)} {N : Nat} (hN : N ≤ 99) : ∀ (m n fu : Nat) (u : Wd), m + n = N → m < fu → (∀ k, 1 ≤ k → k < 24 → u.1 151 k = nI (aT n k)) → ∃ u1, L_X12_alone_45 (nI N) k13 fu (nI (laM n)) (nI n) u = k13 (nI (laM N)) u1 ∧ sameR [151] [] [] [] u u1 ∧ ∀ k, 1 ≤ k → k < 24 → u1.1 151 k = nI (aT N k) := by
  intro m
  induction m with
  | zero =>
    intro n fu u hn hf hr
    obtain ⟨fu, rfl⟩ : ∃ n', fu = n' + 1 := ⟨fu - 1, by omega⟩
    refine ⟨u, ?_, sameR_rf u, fun k hk hk2 => by rw [show N = n by omega]; exact hr k hk hk2⟩
    unfold L_X12_alone_45
    rw [if_pos (nI_le (by omega) (by omega)), show N = n by omega]
  | succ m ih =>
    intro n fu u hn hf hr
    obtain ⟨fu, rfl⟩ : ∃ n', fu = n' + 1 := ⟨fu - 1, by omega⟩
    obtain ⟨s1, s2, s3, s4⟩ := a_step n (by omega)
    have hE : aE n = fzL (stL n) + 1 := rfl
    have hl := (a_need n (by omega)).2.1
    obtain ⟨u1, r1, r2, r3⟩ := m_unloop (k21 := J_X12_alone_x80_1 (L_X12_alone_45 (nI N) k13 fu) (nI (laM n)) (nI n)) (x18 := nI N) (x19 := nI (laM n)) (x20 := nI n) (n := n) (by omega) (aE n - 1) 1 FU u (by omega) (by unfold FU; omega) (by decide) (fun k hk hk2 => by rw [hr k hk hk2, if_neg (by omega)])
    obtain ⟨u2, e2, b2, r4⟩ := ih (n + 1) fu (wI u1 151 (aE n) (nI (aE n))) (by omega) (by omega) (fun k hk hk2 => by
      rw [s4 k hk2 hk]
      by_cases e : k = aE n
      · subst e
        rw [wI_at, if_neg (by omega), if_pos rfl]
      · rw [wI_at_ne e, r3 k hk hk2]
        by_cases h : k < aE n
        · rw [if_pos h, if_pos h]
        · rw [if_neg h, if_neg h, if_neg e])
    refine ⟨u2, ?_, sameR_tr r2 (sameR_tr (sameR_r (by simp) (by decide)) b2), r4⟩
    unfold L_X12_alone_45
    rw [if_neg (nI_ge (by omega) (by omega)), nI_1', r1]
    unfold J_X12_alone_x80_1
    rw [if_pos (ib_nI (by omega) (by decide)), bd_eq, nI_clamp (by omega), imax_nn (by omega) (by omega), bd_eq, bd_eq, nI_1]
    exact e2
theorem m_tlloop {k36 : Wd → Option (Int32 × Wd)} {N M : Nat} (hM : M ≤ 20) : ∀ (m p fu : Nat) (u : Wd), m + p = M → m < fu → (∀ k, 1 ≤ k → k < 24 → u.1 151 k = nI (aT N k)) → rowM u (alR N p) → ∃ u1, L_X12_alone_109 (nI M) k36 fu (nI (p + 1)) u = k36 u1 ∧ qM FM1 [122] u u1 ∧ rowM u1 (alR N M) := by
  intro m
  induction m with
  | zero =>
    intro p fu u hp hf hr hc
    obtain ⟨fu, rfl⟩ : ∃ n', fu = n' + 1 := ⟨fu - 1, by omega⟩
    refine ⟨u, ?_, qM_rf u, by rw [show M = p by omega]; exact hc⟩
    unfold L_X12_alone_109
    rw [if_pos (nI_lt (by omega) (by omega))]
  | succ m ih =>
    intro p fu u hp hf hr hc
    obtain ⟨fu, rfl⟩ : ∃ n', fu = n' + 1 := ⟨fu - 1, by omega⟩
    obtain ⟨u1, e1, r1, s1⟩ := d_tellM hc (by rw [alR_len]; omega) (nI (aT N (p + 1))).toInt64
    obtain ⟨u2, e2, s2, r2⟩ := ih (p + 1) fu u1 (by omega) (by omega) (fun k hk hk2 => by rw [s1.1.1 151 (by decide)]; exact hr k hk hk2) (by rw [alR_s]; exact r1)
    refine ⟨u2, ?_, qM_tr (qM_tell s1) s2, r2⟩
    unfold L_X12_alone_109
    rw [if_neg (nI_nlt (by omega) (by omega)), if_pos (ib_nI (by omega) (by decide)), nI_clamp (by omega), hr (p + 1) (by omega) (by omega), e1, bv_eq, bd_eq, nI_1, e2]
end AL
theorem aT_0 : ∀ k, k < 24 → aT 0 k = 0 := by decide +kernel
theorem q_alone (x : Int32) : Quest (D_X11_alone x) (D_X12_alone x) := by
  intro w c L P hs tx rl cd V kp cl si rw B m ok okr
  have n99 : (99 : Int32) = nI 99 := by decide +kernel
  rcases rng_cases x 0 99 (by decide) (by decide) with hx | ⟨N, -, hN, rfl⟩
  · refine ⟨-1, rw, okS_rw ok, ⟨w, ?_, m, onC_rf w⟩, fun u n => ⟨_, ?_, (MR_7 n).1, (MR_7 n).2⟩⟩
    · unfold D_X11_alone
      rw [nI_0] at hx
      by_cases h1 : x < 0
      · rw [if_pos h1]
      · rw [if_neg h1, n99, if_neg (Int32.not_le.mpr (hx.resolve_left h1))]
    · unfold D_X12_alone
      rw [bd_eq, n99, in_no0 (by decide) hx, bc_eq, if_pos rfl]
  · obtain ⟨hnd, hl20, -⟩ := a_need N (by omega)
    obtain ⟨w1, e1, r1, b1⟩ := d_clearTally w
    obtain ⟨w2, e2, b2, r2⟩ := c_alloop (k3 := J_X11_alone_x33_4) hN N 0 FU w1 (by omega) (by unfold FU; omega) (fun k hk hk2 => by rw [r1 k hk2, aT_0 k (by omega)]; rfl)
    rw [nI_0] at e2
    have e3 := c_ndloop (k10 := J_X11_alone_x64_3) hN r2 20 0 FU rfl (by unfold FU; omega)
    rw [show ndF N 0 = 0 from rfl, nI_0, hnd] at e3
    obtain ⟨w3, t1, t2, t3⟩ := d_clear w2
    obtain ⟨w4, e4, s4, r4⟩ := c_tlloop (k23 := J_X11_alone_x98_2 (nI (laM N))) (N := N) hl20 (laM N) 0 FU w3 (by omega) (by unfold FU; omega) (fun k hk hk2 => by rw [t3.1 118 (by decide)]; exact r2 k hk hk2) t2
    have q1 : qC EC0 [] w w2 := qC_hi (E' := [118]) (T' := []) (same_but (but_tr b1 b2)) (by decide) (by decide) (by simp)
    obtain ⟨k1, k2⟩ := CR_q m (qC_tr (qC_up q1) (qC_hi (same_tr t3 s4) (by decide) (by decide) (by decide))) r4
    refine ⟨nI (laM N), alR N (laM N), by rw [alR_len]; exact hl20, ⟨w4, ?_, k1, k2⟩, fun u n => ?_⟩
    · unfold D_X11_alone
      rw [if_neg (nI_pos (by omega)), n99, if_pos (nI_le hN (by decide)), e1, bv_eq, e2]
      unfold J_X11_alone_x33_4
      refine e3.trans ?_
      unfold J_X11_alone_x64_3
      rw [t1, bv_eq]
      exact e4
    · obtain ⟨n', on'⟩ := MR_7 n
      obtain ⟨u1, g1, s1, z1⟩ := m_clr (k5 := J_X12_alone_x41_4 (nI N)) (x4 := nI N) 24 0 FU (wI u 119 7 0) rfl (by unfold FU; omega) (fun k hk => absurd hk (by omega))
      rw [nI_0] at g1
      obtain ⟨u2, g2, s2, z2⟩ := m_alloop (k13 := J_X12_alone_x102_3) hN N 0 FU u1 (by omega) (by unfold FU; omega) (fun k hk hk2 => by rw [z1 k hk2, aT_0 k hk2]; rfl)
      rw [show laM 0 = 0 from rfl, nI_0] at g2
      have p2 : qM FM0 [] (wI u 119 7 0) u2 := qM_sub (qM_any (F := []) (T := []) (sameR_tr s1 s2) (by decide) (by decide) (by simp)) (by simp) (by simp)
      obtain ⟨u3, g3, p3, r3⟩ := m_tlloop (k36 := J_X12_alone_x131_2 (nI (laM N))) (N := N) hl20 (laM N) 0 FU (wI u2 119 6 0) (by omega) (by unfold FU; omega) (fun k hk hk2 => by rw [wI_r (by decide)]; exact z2 k hk hk2) (row0M u2)
      obtain ⟨k3, k4⟩ := MR_q n' (qM_tr (qM_up p2) (qM_tr (qM_f (k := 6) (v := 0) (by decide)) p3)) r3
      refine ⟨u3, ?_, k3, onM_tr on' k4⟩
      unfold D_X12_alone
      rw [bd_eq, n99, in_yes0 hN (by decide), bc_eq, if_neg (by decide), g1]
      unfold J_X12_alone_x41_4
      refine g2.trans ?_
      unfold J_X12_alone_x102_3
      rw [bd_eq]
      exact g3
