/-! bids -/
def prF (x y v : Int32) : Int32 := if x = y then v / 3 - 1 else if x ≤ y then x / 2 else v - x
/-- no bid from z on is better than x -/
def bsF (x y v : Int32) : Nat → Nat → Bool
  | 0, _ => true
  | n + 1, z => decide (prF (nI z) y v ≤ prF x y v) && bsF x y v n (z + 1)
section BI
variable {w u : Wd}
theorem c_profit (x y v : Int32) (w : Wd) : D_X11_profit x y v w = some (prF x y v, w) := by
  unfold D_X11_profit prF
  by_cases h : x = y
  · rw [if_pos h, if_pos h, if_pos (by decide)]
  · rw [if_neg h, if_neg h]
    by_cases h2 : x ≤ y
    · rw [if_pos h2, if_pos h2, if_pos (by decide)]
    · rw [if_neg h2, if_neg h2]
theorem m_gets (x y v : Int32) (w : Wd) : D_X12_gets x y v w = some (prF x y v, w) := by
  unfold D_X12_gets prF
  by_cases h : x = y
  · rw [if_pos h, if_pos h, if_pos (by decide)]
  · rw [if_neg h, if_neg h]
    by_cases h2 : x ≤ y
    · rw [if_pos h2, if_pos h2, if_pos (by decide)]
    · rw [if_neg h2, if_neg h2]
theorem c_content (x y v : Int32) (w : Wd) : D_X11_isContent x y v w = some (if bsF x y v 10 0 = true then 1 else 0, w) := by
  have key : ∀ (n z fu : Nat), n + z = 10 → n < fu → L_X11_isContent_10 y v (prF x y v) J_X11_isContent_x28_1 J_X11_isContent_x36_2 fu (nI z) w = some (if bsF x y v n z = true then 1 else 0, w) := by
    intro n
    induction n with
    | zero =>
      intro z fu hz hf
      obtain ⟨fu, rfl⟩ : ∃ n', fu = n' + 1 := ⟨fu - 1, by omega⟩
      unfold L_X11_isContent_10
      rw [show (9 : Int32) = nI 9 from by decide +kernel, if_pos (nI_lt (by omega) (by omega))]
      rfl
    | succ n ih =>
      intro z fu hz hf
      obtain ⟨fu, rfl⟩ : ∃ n', fu = n' + 1 := ⟨fu - 1, by omega⟩
      unfold L_X11_isContent_10 bsF
      rw [show (9 : Int32) = nI 9 from by decide +kernel, if_neg (nI_nlt (by omega) (by omega)), c_profit, bc_eq]
      by_cases h : prF (nI z) y v ≤ prF x y v
      · rw [if_pos h, bd_eq, nI_1, ih (z + 1) fu (by omega) (by omega)]
        simp only [h, decide_true, Bool.true_and]
      · rw [if_neg h]
        simp only [h, decide_false, Bool.false_and]
        rfl
  unfold D_X11_isContent
  have := key 10 0 FU rfl (by unfold FU; omega)
  rw [nI_0] at this
  rw [c_profit, bc_eq, this]
theorem m_best9 (x y v : Int32) (w : Wd) : D_X12_isBest x y v w = some (if bsF x y v 10 0 = true then 1 else 0, w) := by
  have key : ∀ (n z fu : Nat), n + z = 10 → n < fu → L_X12_isBest_2 x y v J_X12_isBest_x23_1 J_X12_isBest_x31_2 fu (nI z) w = some (if bsF x y v n z = true then 1 else 0, w) := by
    intro n
    induction n with
    | zero =>
      intro z fu hz hf
      obtain ⟨fu, rfl⟩ : ∃ n', fu = n' + 1 := ⟨fu - 1, by omega⟩
      unfold L_X12_isBest_2
      rw [show (9 : Int32) = nI 9 from by decide +kernel, if_pos (nI_lt (by omega) (by omega))]
      rfl
    | succ n ih =>
      intro z fu hz hf
      obtain ⟨fu, rfl⟩ : ∃ n', fu = n' + 1 := ⟨fu - 1, by omega⟩
      unfold L_X12_isBest_2 bsF
      rw [show (9 : Int32) = nI 9 from by decide +kernel, if_neg (nI_nlt (by omega) (by omega)), m_gets, bc_eq, m_gets, bc_eq]
      by_cases h : prF (nI z) y v ≤ prF x y v
      · rw [if_pos h, bd_eq, nI_1, ih (z + 1) fu (by omega) (by omega)]
        simp only [h, decide_true, Bool.true_and]
      · rw [if_neg h]
        simp only [h, decide_false, Bool.false_and]
        rfl
  unfold D_X12_isBest
  have := key 10 0 FU rfl (by unfold FU; omega)
  rw [nI_0] at this
  exact this
/-- how many pairs were found, and the ROW -/
def okF (s : Nat × List Int64) : Prop := s.2.length ≤ 2 ∧ (s.1 = 0 → s.2 = [])
def biF (v : Int32) (x : Nat) : Nat → Nat → Nat × List Int64 → Nat × List Int64
  | 0, _, s => s
  | n + 1, y, s => biF v x n (y + 1) (if bsF (nI x) (nI y) v 10 0 = true ∧ bsF (nI y) (nI x) v 10 0 = true then (s.1 + 1, if s.1 = 0 then [(nI x).toInt64, (nI y).toInt64] else s.2) else s)
def boF (v : Int32) : Nat → Nat → Nat × List Int64 → Nat × List Int64
  | 0, _, s => s
  | n + 1, x, s => boF v n (x + 1) (biF v x 10 0 s)
theorem biF_ok {v : Int32} {x : Nat} : ∀ n y s, okF s → okF (biF v x n y s) ∧ (biF v x n y s).1 ≤ s.1 + n := by
  intro n
  induction n with
  | zero => intro y s h; exact ⟨h, Nat.le_refl _⟩
  | succ n ih =>
    intro y s h
    have hs : okF (if bsF (nI x) (nI y) v 10 0 = true ∧ bsF (nI y) (nI x) v 10 0 = true then (s.1 + 1, if s.1 = 0 then [(nI x).toInt64, (nI y).toInt64] else s.2) else s) ∧ (if bsF (nI x) (nI y) v 10 0 = true ∧ bsF (nI y) (nI x) v 10 0 = true then (s.1 + 1, if s.1 = 0 then [(nI x).toInt64, (nI y).toInt64] else s.2) else s).1 ≤ s.1 + 1 := by
      split
      · refine ⟨⟨?_, fun z => by simp at z⟩, Nat.le_refl _⟩
        show (if s.1 = 0 then [(nI x).toInt64, (nI y).toInt64] else s.2).length ≤ 2
        split
        · simp
        · exact h.1
      · exact ⟨h, by omega⟩
    obtain ⟨a, b⟩ := ih (y + 1) _ hs.1
    refine ⟨a, ?_⟩
    show (biF v x n (y + 1) _).1 ≤ _
    omega
theorem c_biIn {v : Int32} {x : Nat} {k : Int32 → Wd → Option (Int32 × Wd)} : ∀ (n y fu : Nat) (s : Nat × List Int64) (w : Wd), n + y = 10 → n < fu → okF s → s.1 + n < 1000 → rowC w s.2 → ∃ w1, L_X11_bids_32 v (nI x) k fu (nI s.1) (nI y) w = k (nI (biF v x n y s).1) w1 ∧ qC EC1 [83] w w1 ∧ rowC w1 (biF v x n y s).2 := by
  intro n
  induction n with
  | zero =>
    intro y fu s w hy hf hok hs hr
    obtain ⟨fu, rfl⟩ : ∃ n', fu = n' + 1 := ⟨fu - 1, by omega⟩
    refine ⟨w, ?_, qC_rf w, hr⟩
    unfold L_X11_bids_32
    rw [show (9 : Int32) = nI 9 from by decide +kernel, if_pos (nI_lt (by omega) (by omega))]
    rfl
  | succ n ih =>
    intro y fu s w hy hf hok hs hr
    obtain ⟨fu, rfl⟩ : ∃ n', fu = n' + 1 := ⟨fu - 1, by omega⟩
    have e : biF v x (n + 1) y s = biF v x n (y + 1) (if bsF (nI x) (nI y) v 10 0 = true ∧ bsF (nI y) (nI x) v 10 0 = true then (s.1 + 1, if s.1 = 0 then [(nI x).toInt64, (nI y).toInt64] else s.2) else s) := rfl
    unfold L_X11_bids_32
    rw [show (9 : Int32) = nI 9 from by decide +kernel, if_neg (nI_nlt (by omega) (by omega)), c_content, bc_eq, bd_eq]
    by_cases h1 : bsF (nI x) (nI y) v 10 0 = true
    · rw [if_pos h1, if_neg (by decide), c_content, bc_eq]
      by_cases h2 : bsF (nI y) (nI x) v 10 0 = true
      · have e' : biF v x (n + 1) y s = biF v x n (y + 1) (s.1 + 1, if s.1 = 0 then [(nI x).toInt64, (nI y).toInt64] else s.2) := by
          rw [e, if_pos (And.intro h1 h2)]
        rw [if_pos h2, if_neg (by decide), bd_eq, e']
        by_cases h0 : s.1 = 0
        · obtain ⟨w1, t1, t2, t3⟩ := d_tell2 w (nI x).toInt64 (nI y).toInt64
          obtain ⟨w2, r1, r2, r3⟩ := ih (y + 1) fu (s.1 + 1, if s.1 = 0 then [(nI x).toInt64, (nI y).toInt64] else s.2) w1 (by omega) (by omega) ⟨by show (if s.1 = 0 then [(nI x).toInt64, (nI y).toInt64] else s.2).length ≤ 2; rw [if_pos h0]; simp, fun z => by simp at z⟩ (by show s.1 + 1 + n < 1000; omega) (by show rowC w1 (if s.1 = 0 then _ else _); rw [if_pos h0]; exact t2)
          refine ⟨w2, ?_, qC_tr (qC_hi t3 (by decide) (by decide) (by decide)) r2, r3⟩
          rw [if_pos (show nI s.1 = 0 by rw [h0]; rfl), t1, bv_eq]
          unfold J_X11_bids_j75_1
          rw [bd_eq, nI_1]
          unfold J_X11_bids_j78_2
          rw [bd_eq, nI_1]
          exact r1
        · obtain ⟨w2, r1, r2, r3⟩ := ih (y + 1) fu (s.1 + 1, if s.1 = 0 then [(nI x).toInt64, (nI y).toInt64] else s.2) w (by omega) (by omega) ⟨by show (if s.1 = 0 then [(nI x).toInt64, (nI y).toInt64] else s.2).length ≤ 2; rw [if_neg h0]; exact hok.1, fun z => by simp at z⟩ (by show s.1 + 1 + n < 1000; omega) (by show rowC w (if s.1 = 0 then _ else _); rw [if_neg h0]; exact hr)
          refine ⟨w2, ?_, r2, r3⟩
          rw [if_neg (show ¬ nI s.1 = 0 by rw [nI_z (by omega)]; exact h0)]
          unfold J_X11_bids_j75_1
          rw [bd_eq, nI_1]
          unfold J_X11_bids_j78_2
          rw [bd_eq, nI_1]
          exact r1
      · obtain ⟨w2, r1, r2, r3⟩ := ih (y + 1) fu s w (by omega) (by omega) hok (by omega) hr
        have e' : biF v x (n + 1) y s = biF v x n (y + 1) s := by
          rw [e, if_neg (fun z => h2 (And.right z))]
        rw [if_neg h2, if_pos rfl, e']
        unfold J_X11_bids_j78_2
        rw [bd_eq, nI_1]
        exact ⟨w2, r1, r2, r3⟩
    · obtain ⟨w2, r1, r2, r3⟩ := ih (y + 1) fu s w (by omega) (by omega) hok (by omega) hr
      have e' : biF v x (n + 1) y s = biF v x n (y + 1) s := by
        rw [e, if_neg (fun z => h1 (And.left z))]
      rw [if_neg h1, if_pos rfl, e']
      unfold J_X11_bids_j78_2
      rw [bd_eq, nI_1]
      exact ⟨w2, r1, r2, r3⟩
theorem m_biIn {v : Int32} {x : Nat} {k : Int32 → Wd → Option (Int32 × Wd)} : ∀ (n y fu : Nat) (s : Nat × List Int64) (w : Wd), n + y = 10 → n < fu → okF s → s.1 + n < 1000 → rowM w s.2 → ∃ w1, L_X12_bids_35 v (nI x) k fu (nI s.1) (nI y) w = k (nI (biF v x n y s).1) w1 ∧ qM FM1 [122] w w1 ∧ rowM w1 (biF v x n y s).2 := by
  intro n
  induction n with
  | zero =>
    intro y fu s w hy hf hok hs hr
    obtain ⟨fu, rfl⟩ : ∃ n', fu = n' + 1 := ⟨fu - 1, by omega⟩
    refine ⟨w, ?_, qM_rf w, hr⟩
    unfold L_X12_bids_35
    rw [show (9 : Int32) = nI 9 from by decide +kernel, if_pos (nI_lt (by omega) (by omega))]
    rfl
  | succ n ih =>
    intro y fu s w hy hf hok hs hr
    obtain ⟨fu, rfl⟩ : ∃ n', fu = n' + 1 := ⟨fu - 1, by omega⟩
    have e : biF v x (n + 1) y s = biF v x n (y + 1) (if bsF (nI x) (nI y) v 10 0 = true ∧ bsF (nI y) (nI x) v 10 0 = true then (s.1 + 1, if s.1 = 0 then [(nI x).toInt64, (nI y).toInt64] else s.2) else s) := rfl
    unfold L_X12_bids_35
    rw [show (9 : Int32) = nI 9 from by decide +kernel, if_neg (nI_nlt (by omega) (by omega)), m_best9, bc_eq, bd_eq]
    by_cases h1 : bsF (nI x) (nI y) v 10 0 = true
    · rw [if_pos h1, if_neg (by decide), m_best9, bc_eq]
      by_cases h2 : bsF (nI y) (nI x) v 10 0 = true
      · have e' : biF v x (n + 1) y s = biF v x n (y + 1) (s.1 + 1, if s.1 = 0 then [(nI x).toInt64, (nI y).toInt64] else s.2) := by
          rw [e, if_pos (And.intro h1 h2)]
        rw [if_pos h2, if_neg (by decide), bd_eq, e']
        by_cases h0 : s.1 = 0
        · have hr0 : rowM w [] := by
            have := hok.2 h0
            rw [this] at hr
            exact hr
          obtain ⟨w1, t1, t2, t3⟩ := d_tellM hr0 (by decide) (nI x).toInt64
          obtain ⟨w1', t4, t5, t6⟩ := d_tellM t2 (by simp) (nI y).toInt64
          obtain ⟨w2, r1, r2, r3⟩ := ih (y + 1) fu (s.1 + 1, if s.1 = 0 then [(nI x).toInt64, (nI y).toInt64] else s.2) w1' (by omega) (by omega) ⟨by show (if s.1 = 0 then [(nI x).toInt64, (nI y).toInt64] else s.2).length ≤ 2; rw [if_pos h0]; simp, fun z => by simp at z⟩ (by show s.1 + 1 + n < 1000; omega) (by show rowM w1' (if s.1 = 0 then _ else _); rw [if_pos h0]; exact t5)
          refine ⟨w2, ?_, qM_tr (qM_tr (qM_tell t3) (qM_tell t6)) r2, r3⟩
          rw [if_pos (show nI s.1 = 0 by rw [h0]; rfl), t1, bv_eq, t4, bv_eq]
          unfold J_X12_bids_j82_1
          rw [bd_eq, nI_1]
          unfold J_X12_bids_j85_2
          rw [bd_eq, nI_1]
          exact r1
        · obtain ⟨w2, r1, r2, r3⟩ := ih (y + 1) fu (s.1 + 1, if s.1 = 0 then [(nI x).toInt64, (nI y).toInt64] else s.2) w (by omega) (by omega) ⟨by show (if s.1 = 0 then [(nI x).toInt64, (nI y).toInt64] else s.2).length ≤ 2; rw [if_neg h0]; exact hok.1, fun z => by simp at z⟩ (by show s.1 + 1 + n < 1000; omega) (by show rowM w (if s.1 = 0 then _ else _); rw [if_neg h0]; exact hr)
          refine ⟨w2, ?_, r2, r3⟩
          rw [if_neg (show ¬ nI s.1 = 0 by rw [nI_z (by omega)]; exact h0)]
          unfold J_X12_bids_j82_1
          rw [bd_eq, nI_1]
          unfold J_X12_bids_j85_2
          rw [bd_eq, nI_1]
          exact r1
      · obtain ⟨w2, r1, r2, r3⟩ := ih (y + 1) fu s w (by omega) (by omega) hok (by omega) hr
        have e' : biF v x (n + 1) y s = biF v x n (y + 1) s := by
          rw [e, if_neg (fun z => h2 (And.right z))]
        rw [if_neg h2, if_pos rfl, e']
        unfold J_X12_bids_j85_2
        rw [bd_eq, nI_1]
        exact ⟨w2, r1, r2, r3⟩
    · obtain ⟨w2, r1, r2, r3⟩ := ih (y + 1) fu s w (by omega) (by omega) hok (by omega) hr
      have e' : biF v x (n + 1) y s = biF v x n (y + 1) s := by
        rw [e, if_neg (fun z => h1 (And.left z))]
      rw [if_neg h1, if_pos rfl, e']
      unfold J_X12_bids_j85_2
      rw [bd_eq, nI_1]
      exact ⟨w2, r1, r2, r3⟩
theorem boF_ok {v : Int32} : ∀ n x s, okF s → okF (boF v n x s) := by
  intro n
  induction n with
  | zero => intro x s h; exact h
  | succ n ih => intro x s h; exact ih (x + 1) _ (biF_ok 10 0 s h).1
theorem c_biOut {v : Int32} {k : Int32 → Wd → Option (Int32 × Wd)} : ∀ (n x fu : Nat) (s : Nat × List Int64) (w : Wd), n + x = 10 → n < fu → okF s → s.1 + 10 * n < 1000 → rowC w s.2 → ∃ w1, L_X11_bids_23 v k fu (nI s.1) (nI x) w = k (nI (boF v n x s).1) w1 ∧ qC EC1 [83] w w1 ∧ rowC w1 (boF v n x s).2 := by
  intro n
  induction n with
  | zero =>
    intro x fu s w hx hf hok hs hr
    obtain ⟨fu, rfl⟩ : ∃ n', fu = n' + 1 := ⟨fu - 1, by omega⟩
    refine ⟨w, ?_, qC_rf w, hr⟩
    unfold L_X11_bids_23
    rw [show (9 : Int32) = nI 9 from by decide +kernel, if_pos (nI_lt (by omega) (by omega))]
    rfl
  | succ n ih =>
    intro x fu s w hx hf hok hs hr
    obtain ⟨fu, rfl⟩ : ∃ n', fu = n' + 1 := ⟨fu - 1, by omega⟩
    obtain ⟨w1, r1, r2, r3⟩ := c_biIn (v := v) (x := x) (k := J_X11_bids_x84_3 (L_X11_bids_23 v k fu) (nI x)) 10 0 FU s w rfl (by unfold FU; omega) hok (by omega) hr
    rw [nI_0] at r1
    obtain ⟨a, b⟩ := biF_ok (v := v) (x := x) 10 0 s hok
    obtain ⟨w2, q1, q2, q3⟩ := ih (x + 1) fu (biF v x 10 0 s) w1 (by omega) (by omega) a (by omega) r3
    refine ⟨w2, ?_, qC_tr r2 q2, q3⟩
    unfold L_X11_bids_23
    rw [show (9 : Int32) = nI 9 from by decide +kernel, if_neg (nI_nlt (by omega) (by omega)), r1]
    unfold J_X11_bids_x84_3
    rw [bd_eq, nI_1, q1]
    rfl
theorem m_biOut {v : Int32} {k : Int32 → Wd → Option (Int32 × Wd)} : ∀ (n x fu : Nat) (s : Nat × List Int64) (w : Wd), n + x = 10 → n < fu → okF s → s.1 + 10 * n < 1000 → rowM w s.2 → ∃ w1, L_X12_bids_26 v k fu (nI s.1) (nI x) w = k (nI (boF v n x s).1) w1 ∧ qM FM1 [122] w w1 ∧ rowM w1 (boF v n x s).2 := by
  intro n
  induction n with
  | zero =>
    intro x fu s w hx hf hok hs hr
    obtain ⟨fu, rfl⟩ : ∃ n', fu = n' + 1 := ⟨fu - 1, by omega⟩
    refine ⟨w, ?_, qM_rf w, hr⟩
    unfold L_X12_bids_26
    rw [show (9 : Int32) = nI 9 from by decide +kernel, if_pos (nI_lt (by omega) (by omega))]
    rfl
  | succ n ih =>
    intro x fu s w hx hf hok hs hr
    obtain ⟨fu, rfl⟩ : ∃ n', fu = n' + 1 := ⟨fu - 1, by omega⟩
    obtain ⟨w1, r1, r2, r3⟩ := m_biIn (v := v) (x := x) (k := J_X12_bids_x91_3 (L_X12_bids_26 v k fu) (nI x)) 10 0 FU s w rfl (by unfold FU; omega) hok (by omega) hr
    rw [nI_0] at r1
    obtain ⟨a, b⟩ := biF_ok (v := v) (x := x) 10 0 s hok
    obtain ⟨w2, q1, q2, q3⟩ := ih (x + 1) fu (biF v x 10 0 s) w1 (by omega) (by omega) a (by omega) r3
    refine ⟨w2, ?_, qM_tr r2 q2, q3⟩
    unfold L_X12_bids_26
    rw [show (9 : Int32) = nI 9 from by decide +kernel, if_neg (nI_nlt (by omega) (by omega)), r1]
    unfold J_X12_bids_x91_3
    rw [bd_eq, nI_1, q1]
    rfl
end BI
theorem q_bids (x : Int32) : Quest (D_X11_bids x) (D_X12_bids x) := by
  intro w c L P hs tx rl cd V kp cl si rw B m ok okr
  have n20 : (20 : Int32) = nI 20 := by decide +kernel
  rcases rng_cases x 0 20 (by decide) (by decide) with hx | ⟨v, -, hv, rfl⟩
  · refine ⟨-1, rw, okS_rw ok, ⟨w, ?_, m, onC_rf w⟩, fun u n => ⟨_, ?_, (MR_7 n).1, (MR_7 n).2⟩⟩
    · unfold D_X11_bids
      rw [nI_0] at hx
      by_cases h1 : x < 0
      · rw [if_pos h1]
      · rw [if_neg h1, n20, if_neg (Int32.not_le.mpr (hx.resolve_left h1))]
    · unfold D_X12_bids
      rw [bd_eq, n20, in_no0 (by decide) hx, bc_eq, if_pos rfl]
  · have ok0 : okF (0, []) := ⟨by simp, fun _ => rfl⟩
    obtain ⟨w1, t1, t2, t3⟩ := d_clear w
    obtain ⟨w2, e2, q2, r2⟩ := c_biOut (v := nI v) (k := J_X11_bids_x90_4) 10 0 FU (0, []) w1 rfl (by unfold FU; omega) ok0 (by decide) t2
    rw [nI_0] at e2
    obtain ⟨k1, k2⟩ := CR_q m (qC_tr (qC_hi t3 (by decide) (by decide) (by decide)) q2) r2
    refine ⟨nI (boF (nI v) 10 0 (0, [])).1, (boF (nI v) 10 0 (0, [])).2, Nat.le_trans (boF_ok 10 0 _ ok0).1 (by decide), ⟨w2, ?_, k1, k2⟩, fun u n => ?_⟩
    · unfold D_X11_bids
      rw [if_neg (nI_pos (by omega)), n20, if_pos (nI_le hv (by decide)), t1, bv_eq, e2]
      rfl
    · obtain ⟨n', on'⟩ := MR_7 n
      obtain ⟨u2, g2, p2, s2⟩ := m_biOut (v := nI v) (k := J_X12_bids_x97_4) 10 0 FU (0, []) (wI (wI u 119 7 0) 119 6 0) rfl (by unfold FU; omega) ok0 (by decide) (row0M _)
      rw [nI_0] at g2
      obtain ⟨k3, k4⟩ := MR_q n' (qM_tr (qM_f (k := 6) (v := 0) (by decide)) p2) s2
      refine ⟨u2, ?_, k3, onM_tr on' k4⟩
      unfold D_X12_bids
      rw [bd_eq, n20, in_yes0 hv (by decide), bc_eq, if_neg (by decide), bd_eq, g2]
      rfl
