/-! tries -/
def oc (f : Nat → Bool) (g : Nat → Nat) (i k : Nat) : Nat := cnt (fun j => f j && decide (g j = k)) i
def ms (f : Nat → Bool) (g : Nat → Nat) : Nat → Nat
  | 0 => 0
  | i + 1 => if f i = true then max (ms f g i) (oc f g i (g i) + 1) else ms f g i
theorem oc_s {f : Nat → Bool} {g : Nat → Nat} {i k : Nat} : oc f g (i + 1) k = oc f g i k + (if (f i && decide (g i = k)) = true then 1 else 0) := rfl
theorem oc_le {f : Nat → Bool} {g : Nat → Nat} {i k : Nat} : oc f g i k ≤ i := cnt_le i
theorem ms_le {f : Nat → Bool} {g : Nat → Nat} : ∀ i, ms f g i ≤ i := by
  intro i
  induction i with
  | zero => exact Nat.le_refl _
  | succ i ih =>
    unfold ms
    split
    · have := oc_le (f := f) (g := g) (i := i) (k := g i)
      exact Nat.max_le.mpr ⟨by omega, by omega⟩
    · omega
theorem imin_12 : ∀ q, q ≤ 50 → imin (nI q) 12 = nI (min q 12) := by decide +kernel
section TL
variable {w w0 u u0 : Wd}
theorem d_clearTally (w : Wd) : ∃ w1, D_X11_clearTally w = some w1 ∧ (∀ k, k < 21 → w1.1 118 k = 0) ∧ but [118] w w1 := by
  have key : ∀ (n i fu : Nat) (w : Wd), n + i = 21 → n < fu → (∀ k, k < i → w.1 118 k = 0) → ∃ w1, L_X11_clearTally_2 J_X11_clearTally_x24_1 fu (nI i) w = some w1 ∧ (∀ k, k < 21 → w1.1 118 k = 0) ∧ but [118] w w1 := by
    intro n
    induction n with
    | zero =>
      intro i fu w hi hf hr
      obtain ⟨fu, rfl⟩ : ∃ n', fu = n' + 1 := ⟨fu - 1, by omega⟩
      refine ⟨w, ?_, fun k hk => hr k (by omega), but_rf w⟩
      unfold L_X11_clearTally_2
      rw [show (21 : Int32) = nI 21 from by decide +kernel, if_pos (nI_le (by omega) (by omega))]
      rfl
    | succ n ih =>
      intro i fu w hi hf hr
      obtain ⟨fu, rfl⟩ : ∃ n', fu = n' + 1 := ⟨fu - 1, by omega⟩
      obtain ⟨w1, r1, r2, r3⟩ := ih (i + 1) fu (wI w 118 i 0) (by omega) (by omega) (fun k hk => by
        by_cases e : k = i
        · subst e; exact wI_at
        · rw [wI_at_ne e]; exact hr k (by omega))
      refine ⟨w1, ?_, r2, but_tr (but_wI (by simp)) r3⟩
      unfold L_X11_clearTally_2
      rw [show (21 : Int32) = nI 21 from by decide +kernel, if_neg (nI_ge (by omega) (by omega)), if_pos (ib_nI (by omega) (by decide)), bd_eq, bd_eq, nI_clamp (by omega), nI_1, r1]
  obtain ⟨w1, r1, r2, r3⟩ := key 21 0 FU w rfl (by unfold FU; omega) (fun k hk => absurd hk (by omega))
  rw [nI_0] at r1
  exact ⟨w1, r1, r2, r3⟩
theorem m_clearMany {k : Wd → Option (Int32 × Wd)} {x19 x20 x21 : Int32} : ∀ (n i fu : Nat) (u : Wd), n + i = 51 → n < fu → (∀ k, k < i → u.1 157 k = 0) → ∃ u1, L_X12_tries_63 x19 x20 x21 k fu (nI i) u = k u1 ∧ (∀ k, k < 51 → u1.1 157 k = 0) ∧ sameR [157] [] [] [] u u1 := by
  intro n
  induction n with
  | zero =>
    intro i fu u hi hf hr
    obtain ⟨fu, rfl⟩ : ∃ n', fu = n' + 1 := ⟨fu - 1, by omega⟩
    refine ⟨u, ?_, fun k hk => hr k (by omega), sameR_rf u⟩
    unfold L_X12_tries_63
    rw [n50, if_pos (nI_lt (by omega) (by omega))]
  | succ n ih =>
    intro i fu u hi hf hr
    obtain ⟨fu, rfl⟩ : ∃ n', fu = n' + 1 := ⟨fu - 1, by omega⟩
    obtain ⟨u1, r1, r2, r3⟩ := ih (i + 1) fu (wI u 157 i 0) (by omega) (by omega) (fun k hk => by
      by_cases e : k = i
      · subst e; exact wI_at
      · rw [wI_at_ne e]; exact hr k (by omega))
    refine ⟨u1, ?_, r2, sameR_tr (sameR_r (by simp) (by decide)) r3⟩
    unfold L_X12_tries_63
    rw [n50, if_neg (nI_nlt (by omega) (by omega)), if_pos (ib_nI (by omega) (by decide)), bd_eq, bd_eq, nI_clamp (by omega), nI_1, r1]
end TL
section TR
variable {w w0 u u0 : Wd} {c L : Nat} {P : Nat → Nat} {hs : List (Nat → Nat)} {tx rl : List Nat} {cd : List Int32} {kp : Nat → Option (Nat → Nat)} {cl si : List (Int32 × Int32)} {rw : List Int64}
theorem try_but (m0 : isAt w 0 c P) (hp : posC w) (hB : okB c L (P 14) P) {x : Int32} {b : Int32} {w1 : Wd} (e : D_X11_tryMove x (nI L) w = some (b, w1)) : but [6, 7, 8, 84] w w1 := by
  rcases arg_cases c (by have := hB.2.1; omega) x with hx | ⟨p, hpc, rfl⟩
  · obtain ⟨c6, P6, h6⟩ := hp 6 (by decide)
    have e2 : D_X11_tryMove x (nI L) w = some (0, pW w 6 c P) := by
      unfold D_X11_tryMove
      rw [d_take (by decide) (by decide) (by decide) h6 m0, bv_eq]
      unfold D_X1_make
      rw [d_canMove_no (isAt_c (pW_at _ _ _ _)) hx, bc_eq, if_pos rfl, bc_eq, if_pos (by decide)]
    rw [e2] at e
    cases e
    exact but_sub pW_but (by decide)
  · obtain ⟨v1, t1, t2, t3, t4, t5⟩ := c_try (r := 6) (q := 0) (v := 84) (p := p) (by decide) (by decide) (by decide) (by decide) (by decide) m0 (hp 6 (by decide)) hB hpc
    by_cases h0 : P (P 14 * c + p) = 0
    · have e2 : D_X11_tryMove (nI p) (nI L) w = some (0, v1) := by
        unfold D_X11_tryMove
        rw [t1, bv_eq, t3 h0, bc_eq, if_pos (by decide)]
      rw [e2] at e
      cases e
      exact but_sub t4 (by decide)
    · obtain ⟨v2, s1, -, -, -, -, -, -, s8⟩ := t5 h0
      have e2 : D_X11_tryMove (nI p) (nI L) w = some (1, v2) := by
        unfold D_X11_tryMove
        rw [t1, bv_eq, s1, bc_eq, if_pos (by decide)]
      rw [e2] at e
      cases e
      exact but_sub s8 (by decide)
/-- where the last SEED of PIT p falls by a set of LAWS -/
def plN2 (c : Nat) (P : Nat → Nat) (p set : Nat) : Nat := (mv1 c set (P 14) p P).1
theorem plN2_ok {p set : Nat} (hB : okB c L (P 14) P) (hp : p < c) : okPl c (plN2 c P p set) := by
  have h6 := hB.2.1
  have hfr : P 14 * c + p < 2 * c := by have := hB.2.2.2.1; rcases (by omega : P 14 = 0 ∨ P 14 = 1) with h | h <;> rw [h] <;> omega
  obtain ⟨j1, -, -⟩ := lapS_inv (L := set) (P := P) hB.1 h6 hB.2.2.2.1 hfr
  exact (goS_inv (L := set) hB.1 h6 hB.2.2.2.1 50 _ (lapS c set (P 14) (P 14 * c + p) P).2 1 j1 (by omega)).1
theorem c_mlloop (m : CR w c L P hs tx cd kp cl si rw) (hB : okB c L (P 14) P) {p : Nat} (hp : p < c) (hne : P (P 14 * c + p) ≠ 0) {f : Nat → Bool} : ∀ (n i fu : Nat) (w' : Wd), n + i = 64 → n < fu → qC EC0 [] w w' → (∀ q, okPl c q → w'.1 118 (min q 12) = nI (oc f (plN2 c P p) i q)) → ∃ w1, L_X11_mostLeftBy_10 (nI p) (lN (mk f 64)) J_X11_mostLeftBy_x83_2 fu (nI (ms f (plN2 c P p) i)) (nI i) w' = some (nI (ms f (plN2 c P p) 64), w1) ∧ qC EC0 [] w w1 := by
  have h6 := hB.2.1
  intro n
  induction n with
  | zero =>
    intro i fu w' hi hf h hr
    obtain ⟨fu, rfl⟩ : ∃ n', fu = n' + 1 := ⟨fu - 1, by omega⟩
    refine ⟨w', ?_, h⟩
    unfold L_X11_mostLeftBy_10
    rw [show (64 : Int32) = nI 64 from by decide +kernel, if_pos (nI_le (by omega) (by omega)), show i = 64 by omega]
    rfl
  | succ n ih =>
    intro i fu w' hi hf h hr
    obtain ⟨fu, rfl⟩ : ∃ n', fu = n' + 1 := ⟨fu - 1, by omega⟩
    have hb : (mk f 64).testBit i = f i := by
      rw [mk_bit]
      simp [show i < 64 by omega]
    have h64 := bit64 (n := mk f 64) (i := i) (by omega)
    have em : ms f (plN2 c P p) (i + 1) = if f i = true then max (ms f (plN2 c P p) i) (oc f (plN2 c P p) i (plN2 c P p i) + 1) else ms f (plN2 c P p) i := rfl
    unfold L_X11_mostLeftBy_10
    rw [show (64 : Int32) = nI 64 from by decide +kernel, if_neg (nI_ge (by omega) (by omega)), bd_eq]
    cases hs' : f i with
    | false =>
      rw [hs', if_neg (by decide)] at em
      obtain ⟨w1, e1, p1⟩ := ih (i + 1) fu w' (by omega) (by omega) h (fun q hq => by
        rw [hr q hq, oc_s, hs', Bool.false_and, if_neg (by decide)]
        rfl)
      refine ⟨w1, ?_, p1⟩
      rw [em] at e1
      rw [if_pos (lgz.mpr (h64.mpr (by rw [hb, hs'])))]
      unfold J_X11_mostLeftBy_j77_1
      rw [bd_eq, nI_1]
      exact e1
    | true =>
      rw [hs', if_pos rfl] at em
      obtain ⟨b, w1, e1, p1, hbb⟩ := c_tryPl (qC_now0 m.1 h) (h.2 m.2.2.1) hB (set := i) (by omega) (nI p)
      have hpl : plF c P i (nI p) = nI (plN2 c P p i) := by
        rw [plF_p hp h6, if_neg hne]
        rfl
      have hok := plN2_ok (set := i) hB hp
      have hq50 : plN2 c P p i ≤ 50 := by rcases hok with z | z <;> omega
      rw [hpl] at hbb
      have hb1 : b = 1 ∧ w1.1 84 6 = nI (plN2 c P p i) := by
        rcases hbb with ⟨-, z⟩ | ⟨z1, z2, -⟩
        · exact absurd z (nI_nm (by omega))
        · exact ⟨z1, z2⟩
      have hoc := oc_le (f := f) (g := plN2 c P p) (i := i) (k := plN2 c P p i)
      have hms := ms_le (f := f) (g := plN2 c P p) i
      have hmin : min (plN2 c P p i) 12 < 21 := by omega
      have hk : w1.1 118 = w'.1 118 := (try_but (qC_now0 m.1 h) (h.2 m.2.2.1) (okB_set hB (set := i) (by omega)) e1).1 118 (by decide)
      have hv : w1.1 118 (min (plN2 c P p i) 12) = nI (oc f (plN2 c P p) i (plN2 c P p i)) := by rw [hk]; exact hr _ hok
      obtain ⟨w2, e2, p2⟩ := ih (i + 1) fu (wI w1 118 (min (plN2 c P p i) 12) (nI (oc f (plN2 c P p) i (plN2 c P p i) + 1))) (by omega) (by omega) (qC_tr (qC_tr h p1) (qC_wI (by decide) (by decide))) (fun q hq => by
        by_cases e : q = plN2 c P p i
        · subst e
          rw [wI_at, oc_s, hs', Bool.true_and, if_pos (by simp)]
        · have hmn : min q 12 ≠ min (plN2 c P p i) 12 := by
            rcases hq with z | z <;> rcases hok with z2 | z2 <;> omega
          rw [wI_at_ne hmn, hk, hr q hq, oc_s, hs', Bool.true_and, if_neg (by simpa using (fun z => e z.symm))]
          rfl)
      refine ⟨w2, ?_, p2⟩
      rw [em] at e2
      rw [if_neg (fun z => by
        have z2 := h64.mp (lgz.mp z)
        rw [hb, hs'] at z2
        cases z2), e1, bc_eq, hb1.1, if_neg (by decide), hb1.2, imin_12 _ hq50, bd_eq, if_pos (ib_nI hmin (by decide)), if_pos (ib_nI hmin (by decide)), nI_clamp (by omega), hv, nI_1, bd_eq, if_pos (ib_nI hmin (by decide)), wI_at, imax_nn (by omega) (by omega), bd_eq]
      unfold J_X11_mostLeftBy_j77_1
      rw [bd_eq, nI_1]
      exact e2
theorem c_mostLeft (m : CR w c L P hs tx cd kp cl si rw) (hB : okB c L (P 14) P) {p : Nat} (hp : p < c) (hne : P (P 14 * c + p) ≠ 0) {f : Nat → Bool} {w' : Wd} (h : qC EC0 [] w w') : ∃ w1, D_X11_mostLeftBy (nI p) (lN (mk f 64)) w' = some (nI (ms f (plN2 c P p) 64), w1) ∧ qC EC0 [] w w1 := by
  obtain ⟨w1, e1, r1, b1⟩ := d_clearTally w'
  have q1 : qC EC0 [] w' w1 := qC_hi (E' := [118]) (T' := []) (same_but b1) (by decide) (by decide) (by simp)
  obtain ⟨w2, e2, p2⟩ := c_mlloop m hB hp hne (f := f) 64 0 FU w1 rfl (by unfold FU; omega) (qC_tr h q1) (fun q hq => by
    rw [r1 _ (by omega)]
    rfl)
  rw [show ms f (plN2 c P p) 0 = 0 from rfl, nI_0] at e2
  refine ⟨w2, ?_, p2⟩
  unfold D_X11_mostLeftBy
  rw [e1, bv_eq, e2]
theorem m_mlloop {k : Int32 → Wd → Option (Int32 × Wd)} {x29 x30 : Int32} (n0 : MR u0 c L P hs tx rl kp cl si rw) (hB : okB c L (P 14) P) {p : Nat} (hp : p < c) (hne : P (P 14 * c + p) ≠ 0) {f : Nat → Bool} : ∀ (n i fu : Nat) (u : Wd), n + i = 64 → n < fu → qM FM0 [] u0 u → (∀ j, j < 64 → u.1 156 j = (if f j = true then 1 else 0)) → (∀ q, okPl c q → u.1 157 q = nI (oc f (plN2 c P p) i q)) → ∃ u1, L_X12_tries_87 x29 x30 (nI p) k fu (nI (ms f (plN2 c P p) i)) (nI i) u = k (nI (ms f (plN2 c P p) 64)) u1 ∧ qM FM0 [] u0 u1 ∧ ∀ j, j < 64 → u1.1 156 j = (if f j = true then 1 else 0) := by
  have h6 := hB.2.1
  intro n
  induction n with
  | zero =>
    intro i fu u hi hf h hj hr
    obtain ⟨fu, rfl⟩ : ∃ n', fu = n' + 1 := ⟨fu - 1, by omega⟩
    refine ⟨u, ?_, h, hj⟩
    unfold L_X12_tries_87
    rw [show (64 : Int32) = nI 64 from by decide +kernel, if_pos (nI_le (by omega) (by omega)), show i = 64 by omega]
  | succ n ih =>
    intro i fu u hi hf h hj hr
    obtain ⟨fu, rfl⟩ : ∃ n', fu = n' + 1 := ⟨fu - 1, by omega⟩
    have em : ms f (plN2 c P p) (i + 1) = if f i = true then max (ms f (plN2 c P p) i) (oc f (plN2 c P p) i (plN2 c P p i) + 1) else ms f (plN2 c P p) i := rfl
    unfold L_X12_tries_87
    rw [show (64 : Int32) = nI 64 from by decide +kernel, if_neg (nI_ge (by omega) (by omega)), if_pos (ib_nI (by omega) (by decide)), nI_clamp (by omega), hj i (by omega), bd_eq]
    cases hs' : f i with
    | false =>
      rw [hs', if_neg (by decide)] at em
      obtain ⟨u1, e1, p1⟩ := ih (i + 1) fu u (by omega) (by omega) h hj (fun q hq => by
        rw [hr q hq, oc_s, hs', Bool.false_and, if_neg (by decide)]
        rfl)
      refine ⟨u1, ?_, p1⟩
      rw [em] at e1
      rw [if_pos (by decide)]
      unfold J_X12_tries_j141_1
      rw [bd_eq, nI_1]
      exact e1
    | true =>
      rw [hs', if_pos rfl] at em
      obtain ⟨u1, e1, s1, p1⟩ := m_falls n0 hB h (set := i) (by omega) (nI p)
      have hpl : plF c P i (nI p) = nI (plN2 c P p i) := by
        rw [plF_p hp h6, if_neg hne]
        rfl
      have hok := plN2_ok (set := i) hB hp
      have hq50 : plN2 c P p i ≤ 50 := by rcases hok with z | z <;> omega
      have hoc := oc_le (f := f) (g := plN2 c P p) (i := i) (k := plN2 c P p i)
      have hms := ms_le (f := f) (g := plN2 c P p) i
      have hk : u1.1 157 = u.1 157 := s1.1 157 (by decide) (by decide)
      have hv : u1.1 157 (plN2 c P p i) = nI (oc f (plN2 c P p) i (plN2 c P p i)) := by rw [hk]; exact hr _ hok
      have q2 : qM FM0 [] u1 (wI u1 157 (plN2 c P p i) (nI (oc f (plN2 c P p) i (plN2 c P p i) + 1))) := qM_any (E := [157]) (F := FM0) (T := []) (Z := []) (sameR_r (by simp) (by decide)) (by decide) (by decide) (by simp)
      obtain ⟨u2, e2, p2⟩ := ih (i + 1) fu (wI u1 157 (plN2 c P p i) (nI (oc f (plN2 c P p) i (plN2 c P p i) + 1))) (by omega) (by omega) (qM_tr p1 q2) (fun j hj' => by rw [wI_r (by decide), s1.1 156 (by decide) (by decide)]; exact hj j hj') (fun q hq => by
        by_cases e : q = plN2 c P p i
        · subst e
          rw [wI_at, oc_s, hs', Bool.true_and, if_pos (by simp)]
        · rw [wI_at_ne e, hk, hr q hq, oc_s, hs', Bool.true_and, if_neg (by simpa using (fun z => e z.symm))]
          rfl)
      refine ⟨u2, ?_, p2⟩
      rw [em] at e2
      rw [if_neg (by decide), e1, bc_eq, hpl, if_pos (ib_nI (by omega) (by decide)), if_pos (ib_nI (by omega) (by decide)), nI_clamp (by omega), hv, nI_1, bd_eq, if_pos (ib_nI (by omega) (by decide)), wI_at, imax_nn (by omega) (by omega), bd_eq]
      unfold J_X12_tries_j141_1
      rw [bd_eq, nI_1]
      exact e2
/-- the PIT to try among PITS 0 to n - 1, and how many sets are left at most -/
def trF (c : Nat) (P : Nat → Nat) (f : Nat → Bool) : Nat → Option (Nat × Nat)
  | 0 => none
  | p + 1 => if P (P 14 * c + p) = 0 then trF c P f p else (match trF c P f p with
    | none => some (ms f (plN2 c P p) 64, p)
    | some s => if s.1 ≤ ms f (plN2 c P p) 64 then some s else some (ms f (plN2 c P p) 64, p))
theorem trF_ok {f : Nat → Bool} : ∀ n, n ≤ 6 → ((trF c P f n = none ∧ sumS P (P 14 * c) n = 0) ∨ ∃ a b, trF c P f n = some (a, b) ∧ a ≤ 64 ∧ b < n) := by
  intro n
  induction n with
  | zero => intro _; exact Or.inl ⟨rfl, rfl⟩
  | succ n ih =>
    intro hn
    have e : trF c P f (n + 1) = if P (P 14 * c + n) = 0 then trF c P f n else (match trF c P f n with
      | none => some (ms f (plN2 c P n) 64, n)
      | some s => if s.1 ≤ ms f (plN2 c P n) 64 then some s else some (ms f (plN2 c P n) 64, n)) := rfl
    have es : sumS P (P 14 * c) (n + 1) = sumS P (P 14 * c) n + P (P 14 * c + n) := rfl
    have hms := ms_le (f := f) (g := plN2 c P n) 64
    by_cases h0 : P (P 14 * c + n) = 0
    · rw [if_pos h0] at e
      rw [e]
      rcases ih (by omega) with ⟨h1, h2⟩ | ⟨a, b, h1, h2, h3⟩
      · exact Or.inl ⟨h1, by omega⟩
      · exact Or.inr ⟨a, b, h1, h2, by omega⟩
    · rw [if_neg h0] at e
      rw [e]
      rcases ih (by omega) with ⟨h1, h2⟩ | ⟨a, b, h1, h2, h3⟩
      · rw [h1]
        exact Or.inr ⟨_, _, rfl, hms, by omega⟩
      · rw [h1]
        simp only
        by_cases hc : a ≤ ms f (plN2 c P n) 64
        · rw [if_pos hc]
          exact Or.inr ⟨a, b, rfl, h2, by omega⟩
        · rw [if_neg hc]
          exact Or.inr ⟨_, _, rfl, hms, by omega⟩
def trC (o : Option (Nat × Nat)) : Int32 × Int32 := match o with | none => (65, 0) | some s => (nI s.1, nI s.2)
def trM (o : Option (Nat × Nat)) : Int32 × Int32 := match o with | none => (1000000, -1) | some s => (nI s.1, nI s.2)
theorem imin_nn {a b : Nat} (ha : a < 2 ^ 31) (hb : b < 2 ^ 31) : imin (nI a) (nI b) = nI (min a b) := by
  unfold imin
  by_cases h : b < a
  · rw [if_pos (nI_lt h ha), Nat.min_eq_right (by omega)]
  · rw [if_neg (nI_nlt (by omega) hb), Nat.min_eq_left (by omega)]
theorem c_trloop {k : Int32 → Int32 → Wd → Option (Int32 × Wd)} (m : CR w c L P hs tx cd kp cl si rw) (hB : okB c L (P 14) P) {f : Nat → Bool} : ∀ (n p fu : Nat) (w' : Wd), n + p = c → n < fu → qC EC0 [] w w' → ∃ w1, L_X11_tries_33 (lN (mk f 64)) k fu (trC (trF c P f p)).1 (trC (trF c P f p)).2 (nI p) w' = k (trC (trF c P f c)).1 (trC (trF c P f c)).2 w1 ∧ qC EC0 [] w w1 := by
  have h6 := hB.2.1
  intro n
  induction n with
  | zero =>
    intro p fu w' hp hf h
    obtain ⟨fu, rfl⟩ : ∃ n', fu = n' + 1 := ⟨fu - 1, by omega⟩
    refine ⟨w', ?_, h⟩
    unfold L_X11_tries_33
    rw [isAt_c (qC_now0 m.1 h), if_pos (nI_le (by omega) (by omega)), show p = c by omega]
  | succ n ih =>
    intro p fu w' hp hf h
    obtain ⟨fu, rfl⟩ : ∃ n', fu = n' + 1 := ⟨fu - 1, by omega⟩
    have e : trF c P f (p + 1) = if P (P 14 * c + p) = 0 then trF c P f p else (match trF c P f p with
      | none => some (ms f (plN2 c P p) 64, p)
      | some s => if s.1 ≤ ms f (plN2 c P p) 64 then some s else some (ms f (plN2 c P p) 64, p)) := rfl
    have hms := ms_le (f := f) (g := plN2 c P p) 64
    unfold L_X11_tries_33
    rw [isAt_c (qC_now0 m.1 h), if_neg (nI_ge (by omega) (by omega)), d_canMove (qC_now0 m.1 h) h6 hB.2.2.2.1 hB.2.2.2.2.2 (by omega), bc_eq, bd_eq]
    by_cases h0 : P (P 14 * c + p) = 0
    · rw [if_pos h0] at e
      rw [if_pos h0, if_pos rfl]
      unfold J_X11_tries_j88_2
      rw [bd_eq, nI_1, ← e]
      exact ih (p + 1) fu w' (by omega) (by omega) h
    · rw [if_neg h0] at e
      obtain ⟨w1, e1, p1⟩ := c_mostLeft m hB (p := p) (by omega) h0 (f := f) h
      obtain ⟨w2, e2, p2⟩ := ih (p + 1) fu w1 (by omega) (by omega) p1
      refine ⟨w2, ?_, p2⟩
      rw [if_neg h0, if_neg (by decide), e1, bc_eq, bd_eq]
      unfold J_X11_tries_j79_1
      rcases trF_ok (f := f) p (by omega) with ⟨h1, -⟩ | ⟨a, b, h1, h2, h3⟩
      · rw [h1] at e ⊢
        rw [e] at e2
        show (if (65 : Int32) ≤ nI (ms f (plN2 c P p) 64) then _ else _) = _
        rw [show (65 : Int32) = nI 65 from by decide +kernel, if_neg (nI_ge (by omega) (by decide)), bd_eq]
        unfold J_X11_tries_j88_2
        rw [bd_eq, nI_1]
        show L_X11_tries_33 _ k fu (imin (nI (ms f (plN2 c P p) 64)) 65) (nI p) (nI (p + 1)) w1 = _
        rw [show (65 : Int32) = nI 65 from by decide +kernel, imin_nn (by omega) (by decide), Nat.min_eq_left (by omega)]
        exact e2
      · rw [h1] at e ⊢
        simp only at e
        show (if nI a ≤ nI (ms f (plN2 c P p) 64) then _ else _) = _
        by_cases hc : a ≤ ms f (plN2 c P p) 64
        · rw [if_pos hc] at e
          rw [e] at e2
          rw [if_pos (nI_le hc (by omega)), bd_eq]
          unfold J_X11_tries_j88_2
          rw [bd_eq, nI_1]
          show L_X11_tries_33 _ k fu (imin (nI (ms f (plN2 c P p) 64)) (nI a)) (nI b) (nI (p + 1)) w1 = _
          rw [imin_nn (by omega) (by omega), Nat.min_eq_right (by omega)]
          exact e2
        · rw [if_neg hc] at e
          rw [e] at e2
          rw [if_neg (nI_ge (by omega) (by omega)), bd_eq]
          unfold J_X11_tries_j88_2
          rw [bd_eq, nI_1]
          show L_X11_tries_33 _ k fu (imin (nI (ms f (plN2 c P p) 64)) (nI a)) (nI p) (nI (p + 1)) w1 = _
          rw [imin_nn (by omega) (by omega), Nat.min_eq_left (by omega)]
          exact e2
theorem m_trloop {k : Int32 → Int32 → Wd → Option (Int32 × Wd)} (n0 : MR u0 c L P hs tx rl kp cl si rw) (hB : okB c L (P 14) P) {f : Nat → Bool} : ∀ (n p fu : Nat) (u : Wd), n + p = c → n < fu → qM FM0 [] u0 u → (∀ j, j < 64 → u.1 156 j = (if f j = true then 1 else 0)) → ∃ u1, L_X12_tries_34 k fu (trM (trF c P f p)).2 (trM (trF c P f p)).1 (nI p) u = k (trM (trF c P f c)).2 (trM (trF c P f c)).1 u1 ∧ qM FM0 [] u0 u1 := by
  have h6 := hB.2.1
  intro n
  induction n with
  | zero =>
    intro p fu u hp hf h hj
    obtain ⟨fu, rfl⟩ : ∃ n', fu = n' + 1 := ⟨fu - 1, by omega⟩
    refine ⟨u, ?_, h⟩
    unfold L_X12_tries_34
    rw [(h.1.2.1 1 (by decide)).trans n0.1, if_pos (nI_le (by omega) (by omega)), show p = c by omega]
  | succ n ih =>
    intro p fu u hp hf h hj
    obtain ⟨fu, rfl⟩ : ∃ n', fu = n' + 1 := ⟨fu - 1, by omega⟩
    have e : trF c P f (p + 1) = if P (P 14 * c + p) = 0 then trF c P f p else (match trF c P f p with
      | none => some (ms f (plN2 c P p) 64, p)
      | some s => if s.1 ≤ ms f (plN2 c P p) 64 then some s else some (ms f (plN2 c P p) 64, p)) := rfl
    have hms := ms_le (f := f) (g := plN2 c P p) 64
    have f1 : u.1 119 1 = nI c := (h.1.2.1 1 (by decide)).trans n0.1
    unfold L_X12_tries_34
    rw [f1, if_neg (nI_ge (by omega) (by omega)), d_refuses ln_120 (qM_now0 n0.2.2.1 h).1 f1 hB.1 h6 hB.2.2.2.1 hB.2.2.2.2.2 (by omega), bc_eq, bd_eq]
    unfold rfS
    by_cases h0 : P (P 14 * c + p) = 0
    · rw [if_pos h0] at e
      rw [if_pos h0, if_neg (by decide)]
      unfold J_X12_tries_j161_4
      rw [bd_eq, nI_1, ← e]
      exact ih (p + 1) fu u (by omega) (by omega) h hj
    · rw [if_neg h0] at e
      obtain ⟨u1, e1, r1, s1⟩ := m_clearMany (k := J_X12_tries_x84_3 (trM (trF c P f p)).2 (trM (trF c P f p)).1 (nI p) (J_X12_tries_j161_4 (L_X12_tries_34 k fu) (nI p))) (x19 := (trM (trF c P f p)).2) (x20 := (trM (trF c P f p)).1) (x21 := nI p) 51 0 FU u rfl (by unfold FU; omega) (fun k hk => absurd hk (by omega))
      rw [nI_0] at e1
      have q1 : qM FM0 [] u u1 := qM_sub (qM_any (F := []) (T := []) s1 (by decide) (by decide) (by simp)) (by simp) (by simp)
      obtain ⟨u2, e2, p2, hj2⟩ := m_mlloop (k := J_X12_tries_x147_2 (trM (trF c P f p)).1 (J_X12_tries_j161_4 (L_X12_tries_34 k fu) (nI p)) (nI p) (trM (trF c P f p)).2) (x29 := (trM (trF c P f p)).2) (x30 := (trM (trF c P f p)).1) n0 hB (p := p) (by omega) h0 (f := f) 64 0 FU u1 rfl (by unfold FU; omega) (qM_tr h q1) (fun j hj' => by rw [s1.1 156 (by decide) (by decide)]; exact hj j hj') (fun q hq => by
        rw [r1 q (by rcases hq with z | z <;> omega)]
        rfl)
      rw [show ms f (plN2 c P p) 0 = 0 from rfl, nI_0] at e2
      obtain ⟨u3, e3, p3⟩ := ih (p + 1) fu u2 (by omega) (by omega) p2 hj2
      refine ⟨u3, ?_, p3⟩
      rw [if_neg h0, if_pos (by decide), e1]
      unfold J_X12_tries_x84_3
      rw [e2]
      unfold J_X12_tries_x147_2 J_X12_tries_j161_4
      rw [bd_eq, bd_eq, nI_1]
      rcases trF_ok (f := f) p (by omega) with ⟨h1, -⟩ | ⟨a, b, h1, h2, h3⟩
      · rw [h1] at e ⊢
        rw [e] at e3
        show (if nI (ms f (plN2 c P p) 64) < (1000000 : Int32) then _ else _) = _
        rw [show (1000000 : Int32) = nI 1000000 from by decide +kernel, if_pos (nI_lt (by omega) (by decide))]
        exact e3
      · rw [h1] at e ⊢
        simp only at e
        show (if nI (ms f (plN2 c P p) 64) < nI a then _ else _) = _
        by_cases hc : a ≤ ms f (plN2 c P p) 64
        · rw [if_pos hc] at e
          rw [e] at e3
          rw [if_neg (nI_nlt hc (by omega))]
          exact e3
        · rw [if_neg hc] at e
          rw [e] at e3
          rw [if_pos (nI_lt (by omega) (by omega))]
          exact e3
end TR
theorem q_tries : Quest D_X11_tries D_X12_tries := by
  intro w c L P hs tx rl cd V kp cl si rw B m ok okr
  have hB := okB_of ok
  have h6 := hB.2.1
  obtain ⟨hl, hne⟩ := ok.2.2.2.2.2.2.2.2.1
  obtain ⟨w1, e1, q1⟩ := c_setsLeft m hB hl hne
  have hlt := mk64_lt (f := exL c P si)
  have hcnt : mk (exL c P si) 64 = 0 ↔ cnt (exL c P si) 64 = 0 := by
    rcases lsF_ok (f := exL c P si) 64 (Nat.le_refl _) with ⟨h1, -, h3⟩ | ⟨h1, t, ht, hft, -, -⟩
    · exact ⟨fun _ => h1, fun _ => mk_zero h3⟩
    · refine ⟨fun z => ?_, fun z => by omega⟩
      have : (mk (exL c P si) 64).testBit t = exL c P si t := by
        rw [mk_bit]
        simp [ht]
      rw [z, hft] at this
      simp at this
  have hz : lg_cmp (lN (mk (exL c P si) 64)) 0 = 0 ↔ cnt (exL c P si) 64 = 0 := by
    rw [lgz, show (0 : Int64) = lN 0 from rfl, lN_inj hlt (by decide)]
    exact hcnt
  have hc64 := cnt_le (f := exL c P si) 64
  have hz2 : nI (cnt (exL c P si) 64) = 0 ↔ cnt (exL c P si) 64 = 0 := nI_z (by omega)
  by_cases h0 : cnt (exL c P si) 64 = 0
  · obtain ⟨k1, k2⟩ := CR_q0 m q1
    refine ⟨-2, rw, okS_rw ok, ⟨w1, ?_, k1, k2⟩, fun u n => ?_⟩
    · unfold D_X11_tries
      rw [e1, bc_eq, if_pos (hz.mpr h0)]
    · obtain ⟨n', on'⟩ := MR_7 n
      obtain ⟨u1, g1, p1, r1⟩ := m_layLaws n' hB hl
      obtain ⟨k3, k4⟩ := MR_q0 n' p1
      refine ⟨u1, ?_, k3, onM_tr on' k4⟩
      unfold D_X12_tries
      rw [bd_eq, g1, bc_eq, if_pos (hz2.mpr h0)]
  · by_cases ho : overS c P = true
    · obtain ⟨k1, k2⟩ := CR_q0 m q1
      refine ⟨-2, rw, okS_rw ok, ⟨w1, ?_, k1, k2⟩, fun u n => ?_⟩
      · unfold D_X11_tries
        rw [e1, bc_eq, if_neg (fun z => h0 (hz.mp z)), d_isOver k1.1 h6 hB.2.2.2.1 hB.2.2.2.2.2, bc_eq, if_pos (over_iff.mpr ho), if_neg (by decide)]
      · obtain ⟨n', on'⟩ := MR_7 n
        obtain ⟨u1, g1, p1, r1⟩ := m_layLaws n' hB hl
        obtain ⟨k3, k4⟩ := MR_q0 n' p1
        refine ⟨u1, ?_, k3, onM_tr on' k4⟩
        unfold D_X12_tries
        rw [bd_eq, g1, bc_eq, if_neg (fun z => h0 (hz2.mp z)), m_over ln_120 k3.2.2.1 k3.1 hB, bc_eq, if_pos ho, if_neg (by decide)]
    · have hso : ¬ sumS P (P 14 * c) c = 0 := fun z => ho (over_iff.mp z)
      rcases trF_ok (c := c) (P := P) (f := exL c P si) c h6 with ⟨-, h2⟩ | ⟨a, b, h1, h2, h3⟩
      · exact absurd h2 hso
      · obtain ⟨w2, e2, q2⟩ := c_trloop (k := J_X11_tries_x94_3) m hB (f := exL c P si) c 0 FU w1 rfl (by unfold FU; omega) q1
        rw [h1] at e2
        have e2' : L_X11_tries_33 (lN (mk (exL c P si) 64)) J_X11_tries_x94_3 FU 65 0 0 w1 = J_X11_tries_x94_3 (nI a) (nI b) w2 := by
          rw [nI_0] at e2
          exact e2
        obtain ⟨w3, t1, t2, t3⟩ := d_tell1 w2 (nI a).toInt64
        obtain ⟨k1, k2⟩ := CR_q m (qC_tr (qC_up q2) (qC_hi t3 (by decide) (by decide) (by decide))) t2
        refine ⟨nI b, [(nI a).toInt64], by simp, ⟨w3, ?_, k1, k2⟩, fun u n => ?_⟩
        · unfold D_X11_tries
          rw [e1, bc_eq, if_neg (fun z => h0 (hz.mp z)), d_isOver (CR_q0 m q1).1.1 h6 hB.2.2.2.1 hB.2.2.2.2.2, bc_eq, if_neg hso, if_pos rfl, e2']
          unfold J_X11_tries_x94_3
          rw [t1, bv_eq]
        · obtain ⟨n', on'⟩ := MR_7 n
          obtain ⟨u1, g1, p1, r1⟩ := m_layLaws n' hB hl
          obtain ⟨k3, k4⟩ := MR_q0 n' p1
          obtain ⟨u2, g2, p2⟩ := m_trloop (k := J_X12_tries_x167_5) n' hB (f := exL c P si) c 0 FU u1 rfl (by unfold FU; omega) p1 r1
          rw [h1] at g2
          have g2' : L_X12_tries_34 J_X12_tries_x167_5 FU (-1) 1000000 0 u1 = J_X12_tries_x167_5 (nI b) (nI a) u2 := by
            rw [nI_0] at g2
            exact g2
          obtain ⟨u3, g3, r3, s3⟩ := d_tellM (row0M u2) (by decide) (nI a).toInt64
          obtain ⟨k5, k6⟩ := MR_q n' (qM_tr (qM_up p2) (qM_tr (qM_f (k := 6) (v := 0) (by decide)) (qM_tell s3))) r3
          refine ⟨u3, ?_, k5, onM_tr on' k6⟩
          unfold D_X12_tries
          rw [bd_eq, g1, bc_eq, if_neg (fun z => h0 (hz2.mp z)), m_over ln_120 k3.2.2.1 k3.1 hB, bc_eq, if_neg ho, if_pos rfl, g2']
          unfold J_X12_tries_x167_5
          rw [bd_eq, g3, bv_eq]
