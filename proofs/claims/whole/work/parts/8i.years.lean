/-! years -/
def gN (x : Int32) : Int32 := x * 1103515245 + 12345
def shX (x : Int32) : Int32 := (x.toUInt32 >>> ((16 : Int32).toUInt32 &&& Int32.toUInt32 31)).toInt32
theorem shX_nat (x : Int32) : ∃ t, t < 65536 ∧ shX x = nI t := by
  have h : (shX x).toUInt32.toNat < 65536 := by
    show (x.toUInt32 >>> ((16 : Int32).toUInt32 &&& Int32.toUInt32 31)).toNat < 65536
    rw [UInt32.toNat_shiftRight, show ((16 : Int32).toUInt32 &&& Int32.toUInt32 31).toNat % 32 = 16 from by decide, Nat.shiftRight_eq_div_pow]
    have := x.toUInt32.toNat_lt
    omega
  have hx : 0 ≤ shX x := by
    rw [Int32.le_iff_toInt_le]
    have : (shX x).toInt = (shX x).toUInt32.toNat := by
      show (shX x).toBitVec.toInt = _
      rw [BitVec.toInt_eq_toNat_of_lt]
      · rfl
      · show 2 * (shX x).toUInt32.toNat < _
        omega
    rw [this]
    show (0 : Int) ≤ _
    omega
  obtain ⟨j, hj, e⟩ := nI_of (Int32.not_lt.mpr hx)
  refine ⟨j, ?_, e⟩
  rw [e] at h
  have h2 : (nI j).toUInt32.toNat = j := by
    have : (nI j).toInt = j := nI_toInt (by omega)
    have h3 : (nI j).toBitVec.toInt = j := this
    rw [BitVec.toInt_eq_toNat_bmod] at h3
    have h4 : (nI j).toBitVec.toNat < 65536 := h
    rw [show (nI j).toUInt32.toNat = (nI j).toBitVec.toNat from rfl]
    rw [Int.bmod_def] at h3
    omega
  omega
theorem nI_div {a b : Nat} (ha : a < 2 ^ 31) (hb : b < 2 ^ 31) : nI a / nI b = nI (a / b) := by
  apply Int32.toInt_inj.mp
  have hq : a / b < 2 ^ 31 := Nat.lt_of_le_of_lt (Nat.div_le_self a b) ha
  rw [Int32.toInt_div, nI_toInt ha, nI_toInt hb, nI_toInt hq]
  have : Int.tdiv (a : Int) (b : Int) = ((a / b : Nat) : Int) := by
    rw [Int.tdiv_eq_ediv_of_nonneg (by omega)]
    rfl
  rw [this]
  clear this
  generalize a / b = q at hq
  show Int.bmod (q : Int) 4294967296 = _
  rw [Int.bmod_def, if_pos (by omega)]
  omega
def shN (x : Int32) : Nat := (shX x).toNatClampNeg
theorem shN_lt (x : Int32) : shN x < 65536 := by
  obtain ⟨t, h, e⟩ := shX_nat x
  unfold shN
  rw [e, nI_clamp (by omega)]
  exact h
theorem shN_eq (x : Int32) : shX x = nI (shN x) := by
  obtain ⟨t, h, e⟩ := shX_nat x
  unfold shN
  rw [e, nI_clamp (by omega)]
theorem rem_nI {t m : Nat} (ht : t < 65536) (hm : m < 1000) : nI t - nI t / nI m * nI m = nI (t % m) := by
  have h1 : t / m * m ≤ t := Nat.div_mul_le_self t m
  rw [nI_div (by omega) (by omega), pk_mul, pk_sub h1]
  have h2 := Nat.div_add_mod t m
  rw [Nat.mul_comm] at h2
  rw [show t - t / m * m = t % m by omega]
theorem c_draw (x : Int32) {m : Nat} (h0 : 0 < m) (hm : m < 1000) (w : Wd) : D_X11_draw x (nI m) w = some (nI (shN x % m), w) := by
  unfold D_X11_draw
  have hne : ¬ nI m = 0 := by rw [nI_z (by omega)]; omega
  have e : (x.toUInt32 >>> ((16 : Int32).toUInt32 &&& Int32.toUInt32 31)).toInt32 = nI (shN x) := shN_eq x
  rw [if_neg (by rw [nI_le0 (by omega)]; omega), if_pos hne, e, rem_nI (shN_lt x) hm]
theorem m_draw {m : Nat} (h0 : 0 < m) (hm : m < 1000) (w : Wd) : D_X12_draw (nI m) w = some (nI (shN (gN (w.1 119 50)) % m), wI w 119 50 (gN (w.1 119 50))) := by
  unfold D_X12_draw
  have hne : ¬ nI m = 0 := by rw [nI_z (by omega)]; omega
  rw [bd_eq, if_pos hne, wI_at]
  have e : ((w.1 119 50 * 1103515245 + 12345).toUInt32 >>> ((16 : Int32).toUInt32 &&& Int32.toUInt32 31)).toInt32 = nI (shN (gN (w.1 119 50))) := shN_eq _
  rw [e, rem_nI (shN_lt _) hm]
  rfl
/-- the FULL PITS of the side to MOVE -/
def fulC (P : Nat → Nat) (b : Nat) : Nat → Nat
  | 0 => 0
  | n + 1 => fulC P b n + (if P (b + n) = 0 then 0 else 1)
theorem fulC_em {P : Nat → Nat} {b : Nat} : ∀ n, fulC P b n + emS P b n = n := by
  intro n
  induction n with
  | zero => rfl
  | succ n ih =>
    unfold fulC emS
    by_cases h : P (b + n) = 0
    · rw [if_pos h, if_pos h]; omega
    · rw [if_neg h, if_neg h]; omega
theorem fulC_pos {P : Nat → Nat} {b : Nat} : ∀ n, sumS P b n ≠ 0 → 0 < fulC P b n := by
  intro n
  induction n with
  | zero => intro h; exact absurd rfl h
  | succ n ih =>
    intro h
    unfold fulC
    by_cases h0 : P (b + n) = 0
    · rw [if_pos h0]
      have : sumS P b n ≠ 0 := by
        intro z
        apply h
        show sumS P b n + P (b + n) = 0
        omega
      have := ih this
      omega
    · rw [if_neg h0]; omega
theorem fulC_le {P : Nat → Nat} {b : Nat} : ∀ n i, i ≤ n → fulC P b i ≤ fulC P b n := by
  intro n
  induction n with
  | zero => intro i h; rw [show i = 0 by omega]; exact Nat.le_refl _
  | succ n ih =>
    intro i h
    by_cases e : i = n + 1
    · rw [e]; exact Nat.le_refl _
    · have := ih i (by omega)
      show _ ≤ fulC P b n + _
      omega
/-- the k-th of the FULL PITS, counted from nought -/
def fuP (P : Nat → Nat) (b : Nat) : Nat → Nat → Nat
  | 0, _ => 0
  | n + 1, d => if P (b + n) ≠ 0 ∧ fulC P b n = d then n else fuP P b n d
theorem fuP_ok {P : Nat → Nat} {b d : Nat} : ∀ n, d < fulC P b n → fuP P b n d < n ∧ P (b + fuP P b n d) ≠ 0 ∧ fulC P b (fuP P b n d) = d := by
  intro n
  induction n with
  | zero => intro h; exact absurd h (Nat.not_lt_zero _)
  | succ n ih =>
    intro h
    unfold fuP
    by_cases h0 : P (b + n) ≠ 0 ∧ fulC P b n = d
    · rw [if_pos h0]
      exact ⟨Nat.lt_succ_self n, h0.1, h0.2⟩
    · rw [if_neg h0]
      have h1 : d < fulC P b n := by
        unfold fulC at h
        by_cases hz : P (b + n) = 0
        · rw [if_pos hz] at h
          exact h
        · rw [if_neg hz] at h
          have : fulC P b n ≠ d := fun z => h0 ⟨hz, z⟩
          omega
      obtain ⟨a1, a2, a3⟩ := ih h1
      exact ⟨by omega, a2, a3⟩
section YE
variable {w u : Wd} {c L : Nat} {P : Nat → Nat}
theorem c_fullPits (h : isAt w 6 c P) (hB : okB c L (P 14) P) : D_X5_fullPits 6 w = some (nI (fulC P (P 14 * c) c), w) := by
  unfold D_X5_fullPits
  have := fulC_em (P := P) (b := P 14 * c) c
  rw [isAt_m h, d_emptyPitsOf (isAt_c h) (isAt_s h) (tot_lt hB.2.2.2.2.2) hB.2.1 hB.2.2.2.1, bc_eq, isAt_c h, pk_sub (by omega), show c - emS P (P 14 * c) c = fulC P (P 14 * c) c by omega]
theorem c_fullPit {p : Nat} (h : isAt w 6 c P) (hB : okB c L (P 14) P) (hp : p < c) (h0 : P (P 14 * c + p) ≠ 0) : D_X5_fullPit 6 (nI (fulC P (P 14 * c) p)) w = some (nI p, w) := by
  have h6 := hB.2.1
  have key : ∀ (n i fu : Nat), i + n = p → n < fu → fulC P (P 14 * c) i ≤ fulC P (P 14 * c) p → L_X5_fullPit_4 6 J_X5_fullPit_x24_2 J_X5_fullPit_x35_3 fu (nI (fulC P (P 14 * c) p - fulC P (P 14 * c) i)) (nI i) w = some (nI p, w) := by
    intro n
    induction n with
    | zero =>
      intro i fu hi hf hle
      obtain ⟨fu, rfl⟩ : ∃ n', fu = n' + 1 := ⟨fu - 1, by omega⟩
      have : i = p := by omega
      subst this
      unfold L_X5_fullPit_4
      rw [isAt_c h, if_neg (nI_ge (by omega) (by omega)), d_canMove h h6 hB.2.2.2.1 hB.2.2.2.2.2 hp, bc_eq, bd_eq, if_neg (by rw [if_neg h0]; decide), Nat.sub_self, if_pos nI_0]
      rfl
    | succ n ih =>
      intro i fu hi hf hle
      obtain ⟨fu, rfl⟩ : ∃ n', fu = n' + 1 := ⟨fu - 1, by omega⟩
      have hle2 := fulC_le (P := P) (b := P 14 * c) p (i + 1) (by omega)
      have hc6 := fulC_em (P := P) (b := P 14 * c) p
      have step := ih (i + 1) fu (by omega) (by omega) hle2
      have e : fulC P (P 14 * c) (i + 1) = fulC P (P 14 * c) i + (if P (P 14 * c + i) = 0 then 0 else 1) := rfl
      unfold L_X5_fullPit_4
      rw [isAt_c h, if_neg (nI_ge (by omega) (by omega)), d_canMove h h6 hB.2.2.2.1 hB.2.2.2.2.2 (by omega), bc_eq, bd_eq]
      by_cases hz : P (P 14 * c + i) = 0
      · rw [if_pos hz] at e
        rw [if_pos (show (if P (P 14 * c + i) = 0 then (0 : Int32) else 1) = 0 by rw [if_pos hz])]
        unfold J_X5_fullPit_j29_1
        rw [bd_eq, nI_1, ← step, e, Nat.add_zero (fulC P (P 14 * c) i)]
      · rw [if_neg hz] at e
        rw [if_neg (show ¬ (if P (P 14 * c + i) = 0 then (0 : Int32) else 1) = 0 by rw [if_neg hz]; decide), if_neg (by rw [nI_z (by omega)]; omega), bd_eq]
        unfold J_X5_fullPit_j29_1
        rw [bd_eq, nI_1, ← step, e]
        have e2 : nI (fulC P (P 14 * c) p - fulC P (P 14 * c) i) + (-1) = nI (fulC P (P 14 * c) p - (fulC P (P 14 * c) i + 1)) := by
          rw [show fulC P (P 14 * c) p - (fulC P (P 14 * c) i + 1) = fulC P (P 14 * c) p - fulC P (P 14 * c) i - 1 by omega, ← nI_m1 (by omega), Int32.sub_eq_add_neg]
        rw [e2]
  have := key p 0 FU (by omega) (by unfold FU; omega) (Nat.zero_le _)
  rw [nI_0] at this
  exact this
theorem m_fullPit {p : Nat} (h : isM u 129 P) (hc : u.1 119 1 = nI c) (hB : okB c L (P 14) P) (hp : p < c) (h0 : P (P 14 * c + p) ≠ 0) : D_X12_fullPit 129 (nI (fulC P (P 14 * c) p)) u = some (nI p, u) := by
  have h6 := hB.2.1
  have rf : ∀ i, i < c → D_X12_refuses 129 (nI i) u = some (rfS c P i, u) := fun i hi => d_refuses rfl h.1 hc hB.1 h6 hB.2.2.2.1 hB.2.2.2.2.2 hi
  have key : ∀ (n i fu : Nat), i + n = p → n < fu → fulC P (P 14 * c) i ≤ fulC P (P 14 * c) p → L_X12_fullPit_5 129 J_X12_fullPit_x43_3 fu (nI (fulC P (P 14 * c) p - fulC P (P 14 * c) i)) (nI i) u = some (nI p, u) := by
    intro n
    induction n with
    | zero =>
      intro i fu hi hf hle
      obtain ⟨fu, rfl⟩ : ∃ n', fu = n' + 1 := ⟨fu - 1, by omega⟩
      have : i = p := by omega
      subst this
      unfold L_X12_fullPit_5
      rw [rf i hp, bc_eq, bd_eq, if_neg (show ¬ rfS c P i < 0 by unfold rfS; rw [if_neg h0]; decide), Nat.sub_self, if_pos (show nI 0 ≤ 0 by decide +kernel)]
      rfl
    | succ n ih =>
      intro i fu hi hf hle
      obtain ⟨fu, rfl⟩ : ∃ n', fu = n' + 1 := ⟨fu - 1, by omega⟩
      have hle2 := fulC_le (P := P) (b := P 14 * c) p (i + 1) (by omega)
      have hc6 := fulC_em (P := P) (b := P 14 * c) p
      have step := ih (i + 1) fu (by omega) (by omega) hle2
      have e : fulC P (P 14 * c) (i + 1) = fulC P (P 14 * c) i + (if P (P 14 * c + i) = 0 then 0 else 1) := rfl
      unfold L_X12_fullPit_5
      rw [rf i (by omega), bc_eq, bd_eq]
      by_cases hz : P (P 14 * c + i) = 0
      · rw [if_pos hz] at e
        rw [if_pos (show rfS c P i < 0 by unfold rfS; rw [if_pos hz]; decide)]
        unfold J_X12_fullPit_j19_2
        rw [rf i (by omega), bc_eq, bd_eq, if_neg (show ¬ rfS c P i = 0 by unfold rfS; rw [if_pos hz]; decide)]
        unfold J_X12_fullPit_j35_1
        rw [bd_eq, bd_eq, nI_1, ← step, e, Nat.add_zero (fulC P (P 14 * c) i), Int32.sub_zero]
      · rw [if_neg hz] at e
        rw [if_neg (show ¬ rfS c P i < 0 by unfold rfS; rw [if_neg hz]; decide), if_neg (by rw [nI_le0 (by omega)]; omega)]
        unfold J_X12_fullPit_j19_2
        rw [rf i (by omega), bc_eq, bd_eq, if_pos (show rfS c P i = 0 by unfold rfS; rw [if_neg hz])]
        unfold J_X12_fullPit_j35_1
        rw [bd_eq, bd_eq, nI_1, ← step, e, nI_m1 (by omega), Nat.sub_sub]
  have := key p 0 FU (by omega) (by unfold FU; omega) (Nat.zero_le _)
  rw [nI_0] at this
  exact this
theorem m_count {k : Int32 → Wd → Option (Int32 × Wd)} {x20 x21 x22 x23 : Int32} (h : isM u 129 P) (hc : u.1 119 1 = nI c) (hB : okB c L (P 14) P) : L_X12_years_72 x20 x21 x22 x23 k FU 0 0 u = k (nI (fulC P (P 14 * c) c)) u := by
  have h6 := hB.2.1
  have rf : ∀ i, i < c → D_X12_refuses 129 (nI i) u = some (rfS c P i, u) := fun i hi => d_refuses rfl h.1 hc hB.1 h6 hB.2.2.2.1 hB.2.2.2.2.2 hi
  have key : ∀ (n i fu : Nat), i + n = c → n < fu → L_X12_years_72 x20 x21 x22 x23 k fu (nI (fulC P (P 14 * c) i)) (nI i) u = k (nI (fulC P (P 14 * c) c)) u := by
    intro n
    induction n with
    | zero =>
      intro i fu hi hf
      obtain ⟨fu, rfl⟩ : ∃ n', fu = n' + 1 := ⟨fu - 1, by omega⟩
      have : i = c := by omega
      subst this
      unfold L_X12_years_72
      rw [hc, if_pos (nI_le (Nat.le_refl _) (by omega))]
    | succ n ih =>
      intro i fu hi hf
      obtain ⟨fu, rfl⟩ : ∃ n', fu = n' + 1 := ⟨fu - 1, by omega⟩
      have step := ih (i + 1) fu (by omega) (by omega)
      have e : fulC P (P 14 * c) (i + 1) = fulC P (P 14 * c) i + (if P (P 14 * c + i) = 0 then 0 else 1) := rfl
      unfold L_X12_years_72
      rw [hc, if_neg (nI_ge (by omega) (by omega)), rf i (by omega), bc_eq, bd_eq]
      by_cases hz : P (P 14 * c + i) = 0
      · rw [if_pos hz, Nat.add_zero (fulC P (P 14 * c) i)] at e
        rw [if_neg (show ¬ rfS c P i = 0 by unfold rfS; rw [if_pos hz]; decide)]
        unfold J_X12_years_j101_1
        rw [bd_eq, bd_eq, nI_1, Int32.add_zero, ← step, e]
      · rw [if_neg hz] at e
        rw [if_pos (show rfS c P i = 0 by unfold rfS; rw [if_neg hz])]
        unfold J_X12_years_j101_1
        rw [bd_eq, bd_eq, nI_1, nI_1, ← step, e]
  have := key c 0 FU (by omega) (by unfold FU; omega)
  rw [nI_0] at this
  exact this
end YE
/-- so many MOVES are made, and what they lead to -/
def yrF (c L : Nat) (V : (Nat → Int32) → Int32) : Nat → Int32 → (Nat → Nat) → Nat × (Nat → Nat)
  | 0, _, P => (0, P)
  | n + 1, x, P => if overS c P = true then (0, P) else if shN (gN x) % 3 = 2 then ((yrF c L V n (gN x) (rlS c L P V)).1 + 1, (yrF c L V n (gN x) (rlS c L P V)).2) else ((yrF c L V n (gN (gN x)) (mvP c L (P 14) (fuP P (P 14 * c) c (shN (gN (gN x)) % fulC P (P 14 * c) c)) P)).1 + 1, (yrF c L V n (gN (gN x)) (mvP c L (P 14) (fuP P (P 14 * c) c (shN (gN (gN x)) % fulC P (P 14 * c) c)) P)).2)
section YQ
variable {w w0 u u0 : Wd} {c L : Nat} {P P0 : Nat → Nat} {hs : List (Nat → Nat)} {tx rl : List Nat} {cd : List Int32} {V : (Nat → Int32) → Int32} {kp : Nat → Option (Nat → Nat)} {cl si : List (Int32 × Int32)} {rw : List Int64}
theorem yr_pick (hB : okB c L (P 14) P) (ho : overS c P ≠ true) (x : Int32) : 0 < fulC P (P 14 * c) c ∧ fulC P (P 14 * c) c ≤ c ∧ fuP P (P 14 * c) c (shN x % fulC P (P 14 * c) c) < c ∧ P (P 14 * c + fuP P (P 14 * c) c (shN x % fulC P (P 14 * c) c)) ≠ 0 ∧ fulC P (P 14 * c) (fuP P (P 14 * c) c (shN x % fulC P (P 14 * c) c)) = shN x % fulC P (P 14 * c) c := by
  have h1 : 0 < fulC P (P 14 * c) c := fulC_pos c (fun z => ho (over_iff.mp z))
  have h2 := fulC_em (P := P) (b := P 14 * c) c
  exact ⟨h1, by omega, fuP_ok c (Nat.mod_lt _ h1)⟩
theorem aC_mk {p : Nat} (m : CR w0 c L P0 hs tx cd kp cl si rw) (hB : okB c L (P 14) P) (h : aC w0 w c P) (hp : p < c) (h0 : P (P 14 * c + p) ≠ 0) : ∃ w1, D_X1_make 84 6 (nI p) (w.1 75 18) w = some (1, w1) ∧ aC w0 w1 c (mvP c L (P 14) p P) := by
  have hmk := d_make (w := w) (v := 84) (q := 6) (f := w.1 84) (by decide) hB hp h0
  rw [VW_same h.2] at hmk
  rw [show w.1 75 18 = nI L from by rw [h.1.1.1 75 (by decide)]; exact m.2.1]
  refine ⟨_, hmk, qC_tr h.1 (qC_at (r := 6) (E' := [6, 7, 8, 84]) (by decide) (but_VW (by simp) (by simp) (by simp) (by simp)) (by decide) (by decide) ⟨_, _, VW_at (by decide)⟩), VW_at (by decide)⟩
theorem aM_mk {p : Nat} (n : MR u0 c L P0 hs tx rl kp cl si rw) (hB : okB c L (P 14) P) (h : aM u0 u P) (hp : p < c) : ∃ u1, D_X12_goMove 129 (nI p) u = some u1 ∧ aM u0 u1 (mvP c L (P 14) p P) ∧ u1.1 119 50 = u.1 119 50 := by
  obtain ⟨u1, e1, i1, s1, -⟩ := m_go (a := 129) (by decide) h.2 ((h.1.1.2.1 1 (by decide)).trans n.1) ((h.1.1.2.1 2 (by decide)).trans n.2.1) hB hp
  exact ⟨u1, e1, ⟨qM_tr h.1 (qM_sub (qM_at (r := 129) s1 (by decide) (by decide) (by decide) ⟨_, i1⟩) (by decide) (by simp)), i1⟩, s1.2.1 50 (by decide)⟩
theorem aM_go50 (n : MR u0 c L P0 hs tx rl kp cl si rw) (okr : okRl rl cd V) (hB : okB c L (P 14) P) (h : aM u0 u P) : ∃ u1, D_X12_goRule 129 u = some (if overS c P = true then 0 else 1, u1) ∧ aM u0 u1 (rlS c L P V) ∧ u1.1 119 50 = u.1 119 50 := by
  obtain ⟨u1, g1, s1, i1, i2⟩ := m_goRule (a := 129) (V := V) (by decide) (by decide) (by decide) rfl hB h.2 (h.1.2 (arrM_of n) 130 (by decide)) ((h.1.1.2.1 1 (by decide)).trans n.1) ((h.1.1.2.1 2 (by decide)).trans n.2.1) (ruM_q (ruM_of n okr) h.1)
  exact ⟨u1, g1, ⟨qM_tr h.1 (qM_sub (qM_at2 (r := 129) (s := 130) s1 (by decide) (by decide) (by decide) ⟨_, i1⟩ i2) (by decide) (by simp)), i1⟩, s1.2.1 50 (by decide)⟩
theorem yrF_ok : ∀ (n : Nat) (x : Int32) (P : Nat → Nat), (yrF c L V n x P).1 ≤ n := by
  intro n
  induction n with
  | zero => intro x P; exact Nat.le_refl _
  | succ n ih =>
    intro x P
    unfold yrF
    split
    · exact Nat.zero_le _
    · split
      · exact Nat.succ_le_succ (ih _ _)
      · exact Nat.succ_le_succ (ih _ _)
theorem c_years {k : Int32 → Wd → Option (Int32 × Wd)} (m : CR w0 c L P0 hs tx cd kp cl si rw) (okr : okRl rl cd V) : ∀ (n fu j : Nat) (x : Int32) (P : Nat → Nat) (w : Wd), n < fu → j + n < 1000 → okB c L (P 14) P → aC w0 w c P → ∃ w1, L_X11_years_29 (nI (j + n)) k fu x (nI j) w = k (nI (j + (yrF c L V n x P).1)) w1 ∧ aC w0 w1 c (yrF c L V n x P).2 := by
  intro n
  induction n with
  | zero =>
    intro fu j x P w hf hj hB h
    obtain ⟨fu, rfl⟩ : ∃ n', fu = n' + 1 := ⟨fu - 1, by omega⟩
    refine ⟨w, ?_, h⟩
    unfold L_X11_years_29
    rw [show j + 0 = j from rfl, if_pos (nI_le (Nat.le_refl j) (by omega))]
    rfl
  | succ n ih =>
    intro fu j x P w hf hj hB h
    obtain ⟨fu, rfl⟩ : ∃ n', fu = n' + 1 := ⟨fu - 1, by omega⟩
    unfold L_X11_years_29 yrF
    rw [if_neg (nI_ge (by omega) (by omega)), aC_over hB h, bc_eq]
    by_cases ho : overS c P = true
    · rw [if_pos ho, if_pos ho, if_neg (by decide)]
      exact ⟨w, rfl, h⟩
    · rw [if_neg ho, if_neg ho, if_pos rfl]
      unfold D_X11_drawAgain
      rw [bc_eq, show (3 : Int32) = nI 3 from by decide +kernel, show x * 1103515245 + 12345 = gN x from rfl, c_draw (gN x) (by decide) (by decide), bc_eq, bd_eq]
      by_cases hd : shN (gN x) % 3 = 2
      · obtain ⟨w1, e1, a1⟩ := aC_play m okr hB h
        rw [if_pos (show nI (shN (gN x) % 3) = 2 by rw [hd]; decide +kernel), if_pos hd, e1, bc_eq]
        unfold J_X11_years_j121_1
        rw [bd_eq, nI_1]
        obtain ⟨w2, e2, a2⟩ := ih fu (j + 1) (gN x) (rlS c L P V) w1 (by omega) (by omega) (rlS_ok hB).1 a1
        rw [show j + 1 + n = j + (n + 1) by omega] at e2
        refine ⟨w2, ?_, a2⟩
        rw [e2, show j + 1 + (yrF c L V n (gN x) (rlS c L P V)).1 = j + ((yrF c L V n (gN x) (rlS c L P V)).1 + 1) by omega]
      · have hne : ¬ nI (shN (gN x) % 3) = 2 := by
          rw [nI_2', nI_eq (by omega) (by omega)]
          exact hd
        obtain ⟨y1, y2, y3, y4, y5⟩ := yr_pick hB ho (gN (gN x))
        generalize hp : fuP P (P 14 * c) c (shN (gN (gN x)) % fulC P (P 14 * c) c) = p at y3 y4 y5
        have hB6 := hB.2.1
        obtain ⟨w1, e1, a1⟩ := aC_mk m hB h y3 y4
        rw [if_neg hne, if_neg hd, show gN x * 1103515245 + 12345 = gN (gN x) from rfl, bc_eq, c_fullPits h.2 hB, bc_eq, c_draw (gN (gN x)) y1 (by omega), bc_eq, ← y5, c_fullPit h.2 hB y3 y4, bc_eq, e1, bc_eq]
        unfold J_X11_years_j121_1
        rw [bd_eq, nI_1]
        obtain ⟨w2, e2, a2⟩ := ih fu (j + 1) (gN (gN x)) (mvP c L (P 14) p P) w1 (by omega) (by omega) (okB_mv hB y3) a1
        rw [show j + 1 + n = j + (n + 1) by omega] at e2
        refine ⟨w2, ?_, a2⟩
        rw [e2, show j + 1 + (yrF c L V n (gN (gN x)) (mvP c L (P 14) p P)).1 = j + ((yrF c L V n (gN (gN x)) (mvP c L (P 14) p P)).1 + 1) by omega]
theorem m_years {k : Int32 → Wd → Option (Int32 × Wd)} (n0 : MR u0 c L P0 hs tx rl kp cl si rw) (okr : okRl rl cd V) : ∀ (n fu j i : Nat) (x : Int32) (P : Nat → Nat) (u : Wd), n < fu → i + n < 1000 → j ≤ i → okB c L (P 14) P → aM u0 u P → u.1 119 50 = x → ∃ u1, L_X12_years_39 (nI (i + n)) k fu (nI j) (nI i) u = k (nI (j + (yrF c L V n x P).1)) u1 ∧ aM u0 u1 (yrF c L V n x P).2 := by
  intro n
  induction n with
  | zero =>
    intro fu j i x P u hf hj hji hB h hx
    obtain ⟨fu, rfl⟩ : ∃ n', fu = n' + 1 := ⟨fu - 1, by omega⟩
    refine ⟨u, ?_, h⟩
    unfold L_X12_years_39
    rw [show i + 0 = i from rfl, if_pos (nI_le (Nat.le_refl i) (by omega))]
    rfl
  | succ n ih =>
    intro fu j i x P u hf hj hji hB h hx
    obtain ⟨fu, rfl⟩ : ∃ n', fu = n' + 1 := ⟨fu - 1, by omega⟩
    have a0 : aM u0 (wI u 119 50 (gN x)) P := ⟨qM_tr h.1 (qM_f (by decide)), isM_same h.2 (sameR_f (E := []) (F := [50]) (T := []) (Z := []) (by simp)) (by decide) (by decide)⟩
    have c0 : (wI u 119 50 (gN x)).1 119 1 = nI c := (a0.1.1.2.1 1 (by decide)).trans n0.1
    unfold L_X12_years_39 yrF
    rw [if_neg (nI_ge (by omega) (by omega)), show (3 : Int32) = nI 3 from by decide +kernel, m_draw (by decide) (by decide), bc_eq, hx, aM_over n0 hB a0, bc_eq, bd_eq]
    by_cases ho : overS c P = true
    · rw [if_pos ho, if_pos ho, if_neg (by decide)]
      unfold J_X12_years_j153_4
      rw [bd_eq, nI_1]
      obtain ⟨u2, e2, a2⟩ := ih fu j (i + 1) (gN x) P _ (by omega) (by omega) (by omega) hB a0 wI_at
      have hz : yrF c L V n (gN x) P = (0, P) := by
        cases n with
        | zero => rfl
        | succ n => unfold yrF; rw [if_pos ho]
      rw [show i + 1 + n = i + (n + 1) by omega, hz] at e2
      rw [hz] at a2
      exact ⟨u2, e2, a2⟩
    · rw [if_neg ho, if_neg ho, if_pos rfl, m_count a0.2 c0 hB]
      unfold J_X12_years_x110_3
      rw [bd_eq]
      by_cases hd : shN (gN x) % 3 = 2
      · obtain ⟨u1, e1, a1, x1⟩ := aM_go50 n0 okr hB a0
        rw [if_pos (show nI (shN (gN x) % 3) = 2 by rw [hd]; decide +kernel), if_pos hd, e1, bc_eq]
        unfold J_X12_years_j150_2
        rw [bd_eq, nI_1]
        unfold J_X12_years_j153_4
        rw [bd_eq, nI_1]
        obtain ⟨u2, e2, a2⟩ := ih fu (j + 1) (i + 1) (gN x) (rlS c L P V) u1 (by omega) (by omega) (by omega) (rlS_ok hB).1 a1 (x1.trans wI_at)
        rw [show i + 1 + n = i + (n + 1) by omega] at e2
        refine ⟨u2, ?_, a2⟩
        rw [e2, show j + 1 + (yrF c L V n (gN x) (rlS c L P V)).1 = j + ((yrF c L V n (gN x) (rlS c L P V)).1 + 1) by omega]
      · have hne : ¬ nI (shN (gN x) % 3) = 2 := by
          rw [nI_2', nI_eq (by omega) (by omega)]
          exact hd
        obtain ⟨y1, y2, y3, y4, y5⟩ := yr_pick hB ho (gN (gN x))
        generalize hp : fuP P (P 14 * c) c (shN (gN (gN x)) % fulC P (P 14 * c) c) = p at y3 y4 y5
        have hB6 := hB.2.1
        have a3 : aM u0 (wI (wI u 119 50 (gN x)) 119 50 (gN (gN x))) P := ⟨qM_tr a0.1 (qM_f (by decide)), isM_same a0.2 (sameR_f (E := []) (F := [50]) (T := []) (Z := []) (by simp)) (by decide) (by decide)⟩
        obtain ⟨u1, e1, a1, x1⟩ := aM_mk n0 hB a3 y3
        rw [if_neg hne, if_neg hd, m_draw y1 (by omega), bc_eq, wI_at, ← y5, m_fullPit a3.2 ((a3.1.1.2.1 1 (by decide)).trans n0.1) hB y3 y4, bc_eq, e1, bv_eq]
        unfold J_X12_years_j150_2
        rw [bd_eq, nI_1]
        unfold J_X12_years_j153_4
        rw [bd_eq, nI_1]
        obtain ⟨u2, e2, a2⟩ := ih fu (j + 1) (i + 1) (gN (gN x)) (mvP c L (P 14) p P) u1 (by omega) (by omega) (by omega) (okB_mv hB y3) a1 (x1.trans wI_at)
        rw [show i + 1 + n = i + (n + 1) by omega] at e2
        refine ⟨u2, ?_, a2⟩
        rw [e2, show j + 1 + (yrF c L V n (gN (gN x)) (mvP c L (P 14) p P)).1 = j + ((yrF c L V n (gN (gN x)) (mvP c L (P 14) p P)).1 + 1) by omega]
end YQ
theorem q_years (x y : Int32) : Quest (D_X11_years x y) (D_X12_years x y) := by
  intro w c L P hs tx rl cd V kp cl si rw B m ok okr
  have hB := okB_of ok
  have h60 : (60 : Int32) = nI 60 := by decide +kernel
  rcases rng_cases y 1 60 (by decide) (by decide) with hx | ⟨j, hj1, hj, rfl⟩
  · refine ⟨-1, rw, okS_rw ok, ⟨w, ?_, m, onC_rf w⟩, fun u n => ⟨_, ?_, (MR_7 n).1, (MR_7 n).2⟩⟩
    · unfold D_X11_years
      rw [h60, nI_1']
      by_cases h1 : y < nI 1
      · rw [if_pos h1]
      · rw [if_neg h1, if_neg (Int32.not_le.mpr (hx.resolve_left h1))]
    · unfold D_X12_years
      rw [bd_eq, h60, nI_1', in_no (by decide) (by decide) hx, bc_eq, if_pos rfl]
  · obtain ⟨w1, e1, a1⟩ := aC_start m
    obtain ⟨w2, e2, a2⟩ := c_years (k := J_X11_years_x127_2) m okr j FU 0 x P w1 (by unfold FU; omega) (by omega) hB a1
    rw [Nat.zero_add, Nat.zero_add, nI_0] at e2
    generalize hN : (yrF c L V j x P).1 = N at e2
    generalize hQ : (yrF c L V j x P).2 = Q at a2
    obtain ⟨w3, t1, t2, t3⟩ := d_tell2 w2 (nI N).toInt64 (nI (Q 14)).toInt64
    obtain ⟨k1, k2⟩ := CR_q m (qC_tr (qC_up a2.1) (qC_hi t3 (by decide) (by decide) (by decide))) t2
    have l8 : w3.1 8 = w2.1 8 := t3.1 8 (by decide)
    refine ⟨300 + nI (Q 12) - nI (Q 13), [(nI N).toInt64, (nI (Q 14)).toInt64], by simp, ⟨w3, ?_, k1, k2⟩, fun u n => ?_⟩
    · unfold D_X11_years
      rw [nI_1', if_neg (nI_nlt hj1 (by omega)), h60, if_pos (nI_le hj (by decide)), e1, bv_eq, e2]
      unfold J_X11_years_x127_2
      rw [isAt_m a2.2, t1, bv_eq, if_pos (by decide), if_pos (by decide), show (0 : Int32).toNatClampNeg = 0 from by decide, show (1 : Int32).toNatClampNeg = 1 from by decide, l8, at_P a2.2 (by decide), at_P a2.2 (by decide)]
    · obtain ⟨n', on'⟩ := MR_7 n
      obtain ⟨n'', on''⟩ := MR_q0 n' (qM_f (k := 50) (v := x) (by decide))
      obtain ⟨u1, g1, b1⟩ := aM_start n''
      have x1 : u1.1 119 50 = x := by
        obtain ⟨u1', g1', i1', s1'⟩ := m_lay (a := 120) (b := 129) ln_120 (by decide) (by decide) n''.2.2.1 (arrM_of n'')
        rw [g1] at g1'
        cases g1'
        exact (s1'.2.1 50 (by simp)).trans wI_at
      obtain ⟨u2, g2, b2⟩ := m_years (k := J_X12_years_x159_5) n'' okr j FU 0 0 x P u1 (by unfold FU; omega) (by omega) (Nat.le_refl _) hB b1 x1
      rw [Nat.zero_add, Nat.zero_add, nI_0, hN] at g2
      rw [hQ] at b2
      obtain ⟨u3, t4, t5, t6⟩ := d_tellM (row0M u2) (by decide) (nI N).toInt64
      obtain ⟨u4, t7, t8, t9⟩ := d_tellM t5 (by simp) (nI (Q 14)).toInt64
      obtain ⟨k3, k4⟩ := MR_q n'' (qM_tr (qM_up b2.1) (qM_tr (qM_f (k := 6) (v := 0) (by decide)) (qM_tr (qM_tell t6) (qM_tell t9)))) t8
      refine ⟨u4, ?_, k3, onM_tr on' (onM_tr on'' k4)⟩
      have r3 : u3.1 129 = eP Q := by rw [t6.1.1 129 (by decide), wI_r (by decide), b2.2.1]
      have r4 : u4.1 129 = eP Q := by rw [t9.1.1 129 (by decide), r3]
      unfold D_X12_years
      rw [bd_eq, h60, nI_1', in_yes (by omega) hj1 hj (by decide), bc_eq, if_neg (by decide), bd_eq, g1, bv_eq, g2]
      unfold J_X12_years_x159_5
      rw [bd_eq, t4, bv_eq, if_pos (by decide), r3, show (14 : Int32).toNatClampNeg = 14 from by decide, eP_at, t7, bv_eq, if_pos (by decide), if_pos (by decide), r4, show (12 : Int32).toNatClampNeg = 12 from by decide, show (13 : Int32).toNatClampNeg = 13 from by decide, eP_at, eP_at]
