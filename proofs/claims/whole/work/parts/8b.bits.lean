/-! sets of LAWS as bits of a long: how many, the least -/
theorem lN_and (a b : Nat) : lN a &&& lN b = lN (a &&& b) := by
  apply Int64.toBitVec_inj.mp
  rw [Int64.toBitVec_and]
  exact (BitVec.ofNat_and (x := a) (y := b)).symm
theorem lN_or (a b : Nat) : lN a ||| lN b = lN (a ||| b) := by
  apply Int64.toBitVec_inj.mp
  rw [Int64.toBitVec_or]
  exact (BitVec.ofNat_or (x := a) (y := b)).symm
theorem lN_ushr {n k : Nat} {D : UInt64} (hn : n < 18446744073709551616) (hD : D.toNat % 64 = k) : ((lN n).toUInt64 >>> D).toInt64 = lN (n / 2 ^ k) := by
  have hd : n / 2 ^ k ≤ n := Nat.div_le_self _ _
  have e : (lN n).toUInt64 >>> D = UInt64.ofNat (n / 2 ^ k) := UInt64.toNat_inj.mp (by
    rw [UInt64.toNat_shiftRight, hD, Nat.shiftRight_eq_div_pow, UInt64.toNat_ofNat']
    show (UInt64.ofNat n).toNat / 2 ^ k = _
    rw [UInt64.toNat_ofNat', Nat.mod_eq_of_lt (by omega), Nat.mod_eq_of_lt (by omega)])
  rw [e]
  rfl
theorem lN_inj {a b : Nat} (ha : a < 18446744073709551616) (hb : b < 18446744073709551616) : lN a = lN b ↔ a = b := by
  refine ⟨fun h => ?_, fun h => by rw [h]⟩
  have h1 := congrArg (fun x : Int64 => x.toBitVec.toNat) h
  have h2 : a % 2 ^ 64 = b % 2 ^ 64 := h1
  omega
theorem shl64 : ∀ i, i < 64 → (1 : Int64) <<< ((nI i).toInt64 &&& 63) = lN (2 ^ i) := by decide +kernel
theorem sa64 : ∀ i, i < 64 → (((nI i).toInt64 &&& 63).toBitVec.smod 64).toNat = i := by decide +kernel
/-- a bit of a long is read -/
theorem bit64 {n i : Nat} (hi : i < 64) : (lN n >>> ((nI i).toInt64 &&& 63)) &&& 1 = 0 ↔ n.testBit i = false := by
  have hz : ∀ x : Int64, x = 0 ↔ ∀ j, j < 64 → x.toBitVec.getLsbD j = false := by
    intro x
    refine ⟨fun h j _ => by rw [h]; exact BitVec.getLsbD_zero, fun h => ?_⟩
    apply Int64.toBitVec_inj.mp
    apply BitVec.eq_of_getLsbD_eq
    intro j hj
    rw [h j hj]
    exact BitVec.getLsbD_zero.symm
  have hb : ∀ j, j < 64 → ((lN n >>> ((nI i).toInt64 &&& 63)) &&& 1).toBitVec.getLsbD j = (decide (j = 0) && n.testBit i) := by
    intro j hj
    rw [Int64.toBitVec_and, BitVec.getLsbD_and, Int64.toBitVec_shiftRight]
    show ((((lN n).toBitVec.sshiftRight (((nI i).toInt64 &&& 63).toBitVec.smod 64).toNat).getLsbD j) && ((1#64).getLsbD j)) = (decide (j = 0) && n.testBit i)
    rw [sa64 i hi, BitVec.getLsbD_sshiftRight]
    have e1 : (1#64).getLsbD j = decide (j = 0) := by
      rw [BitVec.getLsbD_one]
      simp
    rw [e1]
    by_cases h0 : j = 0
    · subst h0
      have : (lN n).toBitVec.getLsbD (i + 0) = n.testBit i := by
        show (BitVec.ofNat 64 n).getLsbD (i + 0) = _
        rw [BitVec.getLsbD_ofNat]
        simp [hi]
      rw [this]
      simp [hi]
    · simp [h0]
  rw [hz]
  refine ⟨fun h => ?_, fun h j hj => by rw [hb j hj, h, Bool.and_false]⟩
  have := h 0 (by decide)
  rw [hb 0 (by decide)] at this
  simpa using this
/-! how many bits a long has -/
theorem bt8 {a b : Nat} (hb : b < 256) (i : Nat) : (b + 256 * a).testBit i = if i < 8 then b.testBit i else a.testBit (i - 8) := by
  have := Nat.testBit_two_pow_mul_add a (b := b) (i := 8) hb i
  rw [show 2 ^ 8 * a + b = b + 256 * a by omega] at this
  exact this
theorem and8 {a b c d : Nat} (hb : b < 256) (hd : d < 256) : (b + 256 * a) &&& (d + 256 * c) = (b &&& d) + 256 * (a &&& c) := by
  have hbd : b &&& d < 256 := Nat.and_lt_two_pow (n := 8) b hd
  apply Nat.eq_of_testBit_eq
  intro i
  rw [Nat.testBit_and, bt8 hb, bt8 hd, bt8 hbd]
  by_cases hi : i < 8
  · simp [hi, Nat.testBit_and]
  · simp [hi, Nat.testBit_and]
def pat (m : Nat) : Nat → Nat
  | 0 => 0
  | k + 1 => m + 256 * pat m k
def st1 (k n : Nat) : Nat := n - (n / 2 &&& pat 85 k)
def st2 (k n : Nat) : Nat := (st1 k n &&& pat 51 k) + (st1 k n / 4 &&& pat 51 k)
def st3 (k n : Nat) : Nat := (st2 k n + st2 k n / 16) &&& pat 15 k
def by2 (b : Nat) : Nat := ((b - (b / 2 &&& 85)) &&& 51) + ((b - (b / 2 &&& 85)) / 4 &&& 51)
theorem by_1 : ∀ b, b < 256 → ∀ r, r < 2 → (b / 2 + 128 * r) &&& 85 = b / 2 &&& 85 := by decide +kernel
theorem by_2 : ∀ b, b < 256 → ∀ r, r < 4 → (b / 4 + 64 * r) &&& 51 = b / 4 &&& 51 := by decide +kernel
theorem by_3 : ∀ b, b < 256 → by2 b % 16 ≤ 4 ∧ by2 b ≤ 68 ∧ (by2 b + by2 b / 16) % 16 = cnt (fun i => b.testBit i) 8 := by decide +kernel
theorem and15 (x : Nat) : x &&& 15 = x % 16 := Nat.and_two_pow_sub_one_eq_mod x 4
theorem st1_s {k b n : Nat} (hb : b < 256) : st1 (k + 1) (b + 256 * n) = (b - (b / 2 &&& 85)) + 256 * st1 k n := by
  have hx : (b / 2 + 128 * (n % 2)) < 256 := by omega
  have e : (b + 256 * n) / 2 = (b / 2 + 128 * (n % 2)) + 256 * (n / 2) := by omega
  have h1 : b / 2 &&& 85 ≤ b / 2 := Nat.and_le_left
  have h2 : n / 2 &&& pat 85 k ≤ n / 2 := Nat.and_le_left
  unfold st1
  show b + 256 * n - ((b + 256 * n) / 2 &&& (85 + 256 * pat 85 k)) = _
  rw [e, and8 hx (by decide), by_1 b hb _ (Nat.mod_lt _ (by decide))]
  omega
theorem st2_s {k b n : Nat} (hb : b < 256) : st2 (k + 1) (b + 256 * n) = by2 b + 256 * st2 k n := by
  have h1 : b / 2 &&& 85 ≤ b / 2 := Nat.and_le_left
  have hc : b - (b / 2 &&& 85) < 256 := by omega
  unfold st2 by2
  rw [st1_s hb]
  generalize b - (b / 2 &&& 85) = c at hc ⊢
  generalize st1 k n = m
  have e : (c + 256 * m) / 4 = (c / 4 + 64 * (m % 4)) + 256 * (m / 4) := by omega
  show ((c + 256 * m) &&& (51 + 256 * pat 51 k)) + ((c + 256 * m) / 4 &&& (51 + 256 * pat 51 k)) = _
  rw [e, and8 hc (by decide), and8 (by omega) (by decide), by_2 c hc _ (Nat.mod_lt _ (by decide))]
  omega
theorem st2_16 : ∀ k n, n < 256 ^ k → st2 k n % 16 ≤ 4 := by
  intro k n hn
  cases k with
  | zero =>
    have : n = 0 := by simpa using hn
    subst this
    decide
  | succ k =>
    have := st2_s (k := k) (b := n % 256) (n := n / 256) (Nat.mod_lt _ (by decide))
    rw [show n % 256 + 256 * (n / 256) = n by omega] at this
    rw [this]
    have := (by_3 (n % 256) (Nat.mod_lt _ (by decide))).1
    omega
theorem st3_s {k b n : Nat} (hb : b < 256) (hn : n < 256 ^ k) : st3 (k + 1) (b + 256 * n) = cnt (fun i => b.testBit i) 8 + 256 * st3 k n := by
  obtain ⟨q1, q2, q3⟩ := by_3 b hb
  have q4 := st2_16 k n hn
  unfold st3
  rw [st2_s hb, ← q3]
  generalize by2 b = d at q1 q2
  generalize st2 k n = m at q4
  have e : d + 256 * m + (d + 256 * m) / 16 = (d + d / 16 + 16 * (m % 16)) + 256 * (m + m / 16) := by omega
  show (d + 256 * m + (d + 256 * m) / 16) &&& (15 + 256 * pat 15 k) = _
  rw [e, and8 (by omega) (by decide), and15]
  omega
theorem cnt_add {f : Nat → Bool} (n : Nat) : ∀ m, cnt f (n + m) = cnt f n + cnt (fun i => f (n + i)) m := by
  intro m
  induction m with
  | zero => rfl
  | succ m ih =>
    show cnt f (n + m) + (if f (n + m) = true then 1 else 0) = cnt f n + (cnt (fun i => f (n + i)) m + (if f (n + m) = true then 1 else 0))
    rw [ih, Nat.add_assoc]
theorem cnt_b8 {b n : Nat} (hb : b < 256) (m : Nat) : cnt (fun i => (b + 256 * n).testBit i) (8 + m) = cnt (fun i => b.testBit i) 8 + cnt (fun i => n.testBit i) m := by
  rw [cnt_add, cnt_congr (f := fun i => (b + 256 * n).testBit i) (g := fun i => b.testBit i) 8 (fun i hi => by show (b + 256 * n).testBit i = _; rw [bt8 hb, if_pos hi]), cnt_congr (f := fun i => (b + 256 * n).testBit (8 + i)) (g := fun i => n.testBit i) m (fun i hi => by show (b + 256 * n).testBit (8 + i) = _; rw [bt8 hb, if_neg (by omega), show 8 + i - 8 = i by omega])]
/-- the sum of the bytes; each is at most 8 -/
def sbk : Nat → Nat → Nat
  | 0, _ => 0
  | k + 1, n => n % 256 + sbk k (n / 256)
def okb : Nat → Nat → Prop
  | 0, n => n = 0
  | k + 1, n => n % 256 ≤ 8 ∧ okb k (n / 256)
theorem st3_b : ∀ k n, n < 256 ^ k → sbk k (st3 k n) = cnt (fun i => n.testBit i) (8 * k) ∧ okb k (st3 k n) := by
  intro k
  induction k with
  | zero =>
    intro n hn
    have : n = 0 := by simpa using hn
    subst this
    exact ⟨rfl, rfl⟩
  | succ k ih =>
    intro n hn
    have hn' : n / 256 < 256 ^ k := by
      rw [Nat.pow_succ] at hn
      exact Nat.div_lt_of_lt_mul (by omega)
    obtain ⟨i1, i2⟩ := ih (n / 256) hn'
    have hs := st3_s (k := k) (b := n % 256) (n := n / 256) (Nat.mod_lt _ (by decide)) hn'
    rw [show n % 256 + 256 * (n / 256) = n by omega] at hs
    have hc := cnt_le (f := fun i => (n % 256).testBit i) 8
    have hcn := cnt_b8 (b := n % 256) (n := n / 256) (Nat.mod_lt _ (by decide)) (8 * k)
    rw [show n % 256 + 256 * (n / 256) = n by omega] at hcn
    rw [hs]
    generalize cnt (fun i => (n % 256).testBit i) 8 = p at hc hcn hs ⊢
    have e1 : (p + 256 * st3 k (n / 256)) % 256 = p := by omega
    have e2 : (p + 256 * st3 k (n / 256)) / 256 = st3 k (n / 256) := by omega
    refine ⟨?_, ?_⟩
    · show (p + 256 * st3 k (n / 256)) % 256 + sbk k ((p + 256 * st3 k (n / 256)) / 256) = _
      rw [e1, e2, i1, show 8 * (k + 1) = 8 + 8 * k by omega, hcn]
    · show (p + 256 * st3 k (n / 256)) % 256 ≤ 8 ∧ okb k ((p + 256 * st3 k (n / 256)) / 256)
      rw [e1, e2]
      exact ⟨hc, i2⟩
theorem dsm {S M : Nat} (h : S < 4294967296) : (S + 4294967296 * M) / 4294967296 = M := by omega
theorem dsm6 {S M : Nat} (h : S < 65536) : (S + 65536 * M) / 65536 = M := by omega
theorem fold8 {x m1 m2 m3 m4 m5 m6 m7 p0 p1 p2 p3 p4 p5 p6 : Nat} (h0 : p0 ≤ 8) (h1 : p1 ≤ 8) (h2 : p2 ≤ 8) (h3 : p3 ≤ 8) (h4 : p4 ≤ 8) (h5 : p5 ≤ 8) (h6 : p6 ≤ 8) (h7 : m7 ≤ 8) (e0 : x = p0 + 256 * m1) (e1 : m1 = p1 + 256 * m2) (e2 : m2 = p2 + 256 * m3) (e3 : m3 = p3 + 256 * m4) (e4 : m4 = p4 + 256 * m5) (e5 : m5 = p5 + 256 * m6) (e6 : m6 = p6 + 256 * m7) : x < 18446744073709551616 ∧ x / 256 = m1 ∧ x + m1 < 18446744073709551616 ∧ (x + m1) / 65536 = m2 + m3 ∧ x + m1 + (m2 + m3) < 18446744073709551616 ∧ (x + m1 + (m2 + m3)) / 4294967296 = m4 + m5 + m6 + m7 ∧ (x + m1 + (m2 + m3) + (m4 + m5 + m6 + m7)) % 128 = p0 + (p1 + (p2 + (p3 + (p4 + (p5 + (p6 + m7)))))) := by
  have b6 : m6 ≤ 2056 := by omega
  have b5 : m5 ≤ 526344 := by omega
  have b4 : m4 ≤ 134744072 := by omega
  have b3 : m3 ≤ 34494482440 := by omega
  have b2 : m2 ≤ 8830587504648 := by omega
  have b1 : m1 ≤ 2260630401189896 := by omega
  have b0 : x ≤ 578721382704613384 := by omega
  refine ⟨by omega, by omega, by omega, ?_, by omega, ?_, ?_⟩
  · rw [show x + m1 = (p0 + p1 + 256 * (p1 + p2)) + 65536 * (m2 + m3) by omega]
    exact dsm6 (by omega)
  · rw [show x + m1 + (m2 + m3) = ((p0 + p1 + p2 + p3) + 256 * (p1 + p2 + p3 + p4) + 65536 * (p2 + p3 + p4 + p5) + 16777216 * (p3 + p4 + p5 + p6)) + 4294967296 * (m4 + m5 + m6 + m7) by omega]
    exact dsm (by omega)
  · rw [show x + m1 + (m2 + m3) + (m4 + m5 + m6 + m7) = (p0 + (p1 + (p2 + (p3 + (p4 + (p5 + (p6 + m7))))))) + 128 * (2 * (m1 + m2 + m3 + m4 + m5 + m6 + m7)) by omega, Nat.add_mul_mod_self_left, Nat.mod_eq_of_lt (by omega)]
theorem fold8' {x : Nat} (h : okb 8 x) : x < 18446744073709551616 ∧ x + x / 256 < 18446744073709551616 ∧ x + x / 256 + (x + x / 256) / 65536 < 18446744073709551616 ∧ (x + x / 256 + (x + x / 256) / 65536 + (x + x / 256 + (x + x / 256) / 65536) / 4294967296) % 128 = sbk 8 x := by
  obtain ⟨q0, q1, q2, q3, q4, q5, q6, q7, z⟩ := h
  have hz : x / 256 / 256 / 256 / 256 / 256 / 256 / 256 / 256 = 0 := z
  have hs : sbk 8 x = x % 256 + (x / 256 % 256 + (x / 256 / 256 % 256 + (x / 256 / 256 / 256 % 256 + (x / 256 / 256 / 256 / 256 % 256 + (x / 256 / 256 / 256 / 256 / 256 % 256 + (x / 256 / 256 / 256 / 256 / 256 / 256 % 256 + (x / 256 / 256 / 256 / 256 / 256 / 256 / 256 % 256 + 0))))))) := rfl
  rw [hs]
  have md : ∀ y : Nat, y = y % 256 + 256 * (y / 256) := fun y => (Nat.mod_add_div y 256).symm
  have d0 := md x
  generalize hm1 : x / 256 = m1 at *
  have d1 := md m1
  generalize hm2 : m1 / 256 = m2 at *
  have d2 := md m2
  generalize hm3 : m2 / 256 = m3 at *
  have d3 := md m3
  generalize hm4 : m3 / 256 = m4 at *
  have d4 := md m4
  generalize hm5 : m4 / 256 = m5 at *
  have d5 := md m5
  generalize hm6 : m5 / 256 = m6 at *
  have d6 := md m6
  generalize hm7 : m6 / 256 = m7 at *
  have h7 : m7 % 256 = m7 := by
    have := md m7
    rw [hz] at this
    omega
  rw [h7] at q7 ⊢
  obtain ⟨r1, r2, r3, r4, r5, r6, r7⟩ := fold8 q0 q1 q2 q3 q4 q5 q6 q7 d0 d1 d2 d3 d4 d5 d6
  rw [r4, r6, r7]
  exact ⟨r1, r3, r5, by rw [Nat.add_zero]⟩
theorem bitC {n : Nat} (hn : n < 18446744073709551616) (w : Wd) : D_J13_bitCount_95d88 (lN n) w = some (nI (cnt (fun i => n.testBit i) 64), w) := by
  obtain ⟨t1, t2⟩ := st3_b 8 n (by rw [show 256 ^ 8 = 18446744073709551616 from rfl]; exact hn)
  obtain ⟨r1, r2, r3, r4⟩ := fold8' t2
  have m5 : (6148914691236517205 : Int64) = lN (pat 85 8) := by decide +kernel
  have m3 : (3689348814741910323 : Int64) = lN (pat 51 8) := by decide +kernel
  have mf : (1085102592571150095 : Int64) = lN (pat 15 8) := by decide +kernel
  have l1 : st1 8 n < 18446744073709551616 := Nat.lt_of_le_of_lt (Nat.sub_le _ _) hn
  have p51 : pat 51 8 = 3689348814741910323 := by decide +kernel
  have a1 : st1 8 n &&& pat 51 8 ≤ pat 51 8 := Nat.and_le_right
  have a2 : st1 8 n / 4 &&& pat 51 8 ≤ pat 51 8 := Nat.and_le_right
  have l2 : st2 8 n < 18446744073709551616 := by
    show (st1 8 n &&& pat 51 8) + (st1 8 n / 4 &&& pat 51 8) < _
    rw [p51] at a1 a2 ⊢
    omega
  have s1 : ((1 : Int32).toInt64.toUInt64 &&& Int64.toUInt64 63).toNat % 64 = 1 := by decide
  have s2 : ((2 : Int32).toInt64.toUInt64 &&& Int64.toUInt64 63).toNat % 64 = 2 := by decide
  have s4 : ((4 : Int32).toInt64.toUInt64 &&& Int64.toUInt64 63).toNat % 64 = 4 := by decide
  have s8 : ((8 : Int32).toInt64.toUInt64 &&& Int64.toUInt64 63).toNat % 64 = 8 := by decide
  have s16 : ((16 : Int32).toInt64.toUInt64 &&& Int64.toUInt64 63).toNat % 64 = 16 := by decide
  have s32 : ((32 : Int32).toInt64.toUInt64 &&& Int64.toUInt64 63).toNat % 64 = 32 := by decide
  have hle : n / 2 ^ 1 &&& pat 85 8 ≤ n := Nat.le_trans Nat.and_le_left (Nat.div_le_self _ _)
  have v1 : n - (n / 2 ^ 1 &&& pat 85 8) = st1 8 n := rfl
  have v2 : (st1 8 n &&& pat 51 8) + (st1 8 n / 2 ^ 2 &&& pat 51 8) = st2 8 n := rfl
  have v3 : (st2 8 n + st2 8 n / 2 ^ 4) &&& pat 15 8 = st3 8 n := rfl
  have w8 : (2 : Nat) ^ 8 = 256 := rfl
  have w16 : (2 : Nat) ^ 16 = 65536 := rfl
  have w32 : (2 : Nat) ^ 32 = 4294967296 := rfl
  have k127 : (127 : Int32) = nI 127 := by decide +kernel
  have an : ∀ y : Nat, y &&& 127 = y % 128 := fun y => Nat.and_two_pow_sub_one_eq_mod y 7
  unfold D_J13_bitCount_95d88
  rw [bd_eq, lN_ushr hn s1, m5, lN_and, lN_sub hle, v1]
  rw [bd_eq, lN_ushr l1 s2, m3, lN_and, lN_and, lN_add, v2]
  rw [bd_eq, lN_ushr l2 s4, lN_add, mf, lN_and, v3]
  generalize st3 8 n = x at *
  rw [bd_eq, lN_ushr r1 s8, lN_add, w8]
  rw [bd_eq, lN_ushr r2 s16, lN_add, w16]
  rw [bd_eq, lN_ushr r3 s32, lN_add, w32]
  rw [lN_i, k127, nI_and, an, r4, t1]
/-! the least bit of a long -/
theorem low_bits {M t : Nat} (h1 : M.testBit t = true) (h2 : ∀ i, i < t → M.testBit i = false) : M % 2 ^ (t + 1) = 2 ^ t := by
  apply Nat.eq_of_testBit_eq
  intro i
  rw [Nat.testBit_mod_two_pow, Nat.testBit_two_pow]
  by_cases e : t = i
  · subst e
    simp [h1]
  · by_cases hi : i < t
    · simp [e, h2 i hi]
    · have : ¬ i < t + 1 := by omega
      simp [this, e]
theorem low_and {a t : Nat} (ha : a < 2 ^ 32) (ht : t < 32) (h : a % 2 ^ (t + 1) = 2 ^ t) : (a ^^^ (2 ^ 32 - 1)) &&& (a - 1) = 2 ^ t - 1 := by
  have hp : 0 < 2 ^ t := Nat.pow_pos (by decide)
  have hlt : 2 ^ t < 2 ^ (t + 1) := Nat.pow_lt_pow_right (by decide) (by omega)
  have e1 : a = 2 ^ (t + 1) * (a / 2 ^ (t + 1)) + 2 ^ t := by
    have := Nat.mod_add_div a (2 ^ (t + 1))
    omega
  have e2 : a - 1 = 2 ^ (t + 1) * (a / 2 ^ (t + 1)) + (2 ^ t - 1) := by omega
  have b1 : ∀ i, a.testBit i = if i < t + 1 then decide (t = i) else (a / 2 ^ (t + 1)).testBit (i - (t + 1)) := by
    intro i
    have := Nat.testBit_two_pow_mul_add (a / 2 ^ (t + 1)) hlt i
    rw [← e1, Nat.testBit_two_pow] at this
    exact this
  have b2 : ∀ i, (a - 1).testBit i = if i < t + 1 then decide (i < t) else (a / 2 ^ (t + 1)).testBit (i - (t + 1)) := by
    intro i
    have := Nat.testBit_two_pow_mul_add (a / 2 ^ (t + 1)) (b := 2 ^ t - 1) (i := t + 1) (by omega) i
    rw [← e2, Nat.testBit_two_pow_sub_one] at this
    exact this
  have b3 : ∀ i, 32 ≤ i → a.testBit i = false := fun i hi => Nat.testBit_lt_two_pow (Nat.lt_of_lt_of_le ha (Nat.pow_le_pow_right (by decide) hi))
  apply Nat.eq_of_testBit_eq
  intro i
  rw [Nat.testBit_and, Nat.testBit_xor, Nat.testBit_two_pow_sub_one, Nat.testBit_two_pow_sub_one, b2]
  by_cases hi : i < t + 1
  · rw [if_pos hi]
    by_cases hit : i < t
    · have : a.testBit i = false := by
        rw [b1, if_pos hi]
        simp
        omega
      have h32 : i < 32 := by omega
      rw [this]
      simp [hit, h32]
    · simp [hit]
  · rw [if_neg hi]
    have hn : ¬ i < t := by omega
    have b1i := b1 i
    rw [if_neg hi] at b1i
    rw [← b1i]
    by_cases h32 : i < 32
    · simp [hn, h32]
    · rw [b3 i (by omega)]
      simp [hn]
theorem tz_t : ∀ t, t < 32 → (D_J6_numberOfTrailingZeros_0f7a4 (nI (2 ^ t)) w00).map Prod.fst = some (nI t) := by decide +kernel
theorem tz_x (x y : Int32) (w : Wd) (h : (x ^^^ (-1)) &&& (x - 1) = (y ^^^ (-1)) &&& (y - 1)) : D_J6_numberOfTrailingZeros_0f7a4 x w = (D_J6_numberOfTrailingZeros_0f7a4 y w00).map (fun q => (q.1, w)) := by
  unfold D_J6_numberOfTrailingZeros_0f7a4
  simp only [bd_eq, h]
  generalize (y ^^^ (-1)) &&& (y - 1) = z
  have j1 : ∀ a b, J_J6_numberOfTrailingZeros_0f7a4_j62_1 a b w = (J_J6_numberOfTrailingZeros_0f7a4_j62_1 a b w00).map (fun q => (q.1, w)) := by
    intro a b
    unfold J_J6_numberOfTrailingZeros_0f7a4_j62_1
    by_cases c : a ≤ 4
    · rw [if_pos c, if_pos c]; rfl
    · rw [if_neg c, if_neg c]; rfl
  have j2 : ∀ a b, J_J6_numberOfTrailingZeros_0f7a4_j49_2 a b w = (J_J6_numberOfTrailingZeros_0f7a4_j49_2 a b w00).map (fun q => (q.1, w)) := by
    intro a b
    unfold J_J6_numberOfTrailingZeros_0f7a4_j49_2
    by_cases c : a ≤ 16
    · simp only [bd_eq, if_pos c]; exact j1 _ _
    · simp only [bd_eq, if_neg c]; exact j1 _ _
  have j3 : ∀ a b, J_J6_numberOfTrailingZeros_0f7a4_j34_3 a b w = (J_J6_numberOfTrailingZeros_0f7a4_j34_3 a b w00).map (fun q => (q.1, w)) := by
    intro a b
    unfold J_J6_numberOfTrailingZeros_0f7a4_j34_3
    by_cases c : a ≤ 256
    · simp only [bd_eq, if_pos c]; exact j2 _ _
    · simp only [bd_eq, if_neg c]; exact j2 _ _
  by_cases c : 0 < z
  · by_cases c2 : z ≤ 65536
    · simp only [if_pos c, if_pos c2]; exact j3 _ _
    · simp only [if_pos c, if_neg c2]; exact j3 _ _
  · simp only [if_neg c]; rfl
theorem tz_32 {a t : Nat} (ha : a < 2 ^ 32) (ht : t < 32) (h : a % 2 ^ (t + 1) = 2 ^ t) (w : Wd) : D_J6_numberOfTrailingZeros_0f7a4 (nI a) w = some (nI t, w) := by
  have hp : 0 < 2 ^ t := Nat.pow_pos (by decide)
  have ha1 : 1 ≤ a := by
    have := Nat.mod_le a (2 ^ (t + 1))
    omega
  have ht32 : 2 ^ t < 2 ^ 32 := Nat.pow_lt_pow_right (by decide) ht
  have e : ∀ b, b < 2 ^ 32 → 1 ≤ b → b % 2 ^ (t + 1) = 2 ^ t → (nI b ^^^ (-1)) &&& (nI b - 1) = nI (2 ^ t - 1) := by
    intro b hb h1 hm
    rw [nI_not, nI_1', pk_sub h1, nI_and, low_and hb ht hm]
  have e2 : 2 ^ t % 2 ^ (t + 1) = 2 ^ t := Nat.mod_eq_of_lt (Nat.pow_lt_pow_right (by decide) (by omega))
  rw [tz_x (nI a) (nI (2 ^ t)) w ((e a ha ha1 h).trans (e (2 ^ t) ht32 hp e2).symm)]
  have := tz_t t ht
  cases hd : D_J6_numberOfTrailingZeros_0f7a4 (nI (2 ^ t)) w00 with
  | none => rw [hd] at this; cases this
  | some q =>
    rw [hd] at this
    have h1 : q.1 = nI t := Option.some.inj this
    show some (q.1, w) = _
    rw [h1]
theorem tz_64 {M t : Nat} (hM : M < 18446744073709551616) (ht : t < 64) (h1 : M.testBit t = true) (h2 : ∀ i, i < t → M.testBit i = false) (w : Wd) : D_J13_numberOfTrailingZeros_95d88 (lN M) w = some (nI t, w) := by
  have s32 : ((32 : Int32).toInt64.toUInt64 &&& Int64.toUInt64 63).toNat % 64 = 32 := by decide
  have hm32 : nI M = nI (M % 2 ^ 32) := by
    apply Int32.toBitVec_inj.mp
    apply BitVec.eq_of_toNat_eq
    show M % 2 ^ 32 = M % 2 ^ 32 % 2 ^ 32
    omega
  have hlt : M % 2 ^ 32 < 2 ^ 32 := Nat.mod_lt _ (by decide)
  have hd : M / 2 ^ 32 < 2 ^ 32 := by omega
  unfold D_J13_numberOfTrailingZeros_95d88
  rw [bd_eq, lN_i, lN_ushr hM s32, lN_i]
  by_cases c : t < 32
  · have hb : (M % 2 ^ 32).testBit t = true := by
      rw [Nat.testBit_mod_two_pow]
      simp [c, h1]
    have hl := low_bits hb (fun i hi => by
      rw [Nat.testBit_mod_two_pow, h2 i hi]
      simp)
    have hne : M % 2 ^ 32 ≠ 0 := fun z => by
      rw [z] at hb
      simp at hb
    have hnz : ¬ nI M = 0 := by
      rw [hm32]
      intro z
      have h3 := congrArg (fun x : Int32 => x.toBitVec.toNat) z
      have h4 : M % 2 ^ 32 % 2 ^ 32 = 0 := h3
      omega
    rw [if_neg hnz, hm32, tz_32 hlt c hl, bc_eq]
  · have h0 : M % 2 ^ 32 = 0 := by
      apply Nat.eq_of_testBit_eq
      intro i
      rw [Nat.testBit_mod_two_pow, Nat.zero_testBit]
      by_cases hi : i < 32
      · rw [h2 i (by omega)]
        simp
      · simp [hi]
    have hb : (M / 2 ^ 32).testBit (t - 32) = true := by
      rw [Nat.testBit_div_two_pow, show t - 32 + 32 = t by omega, h1]
    have hl := low_bits hb (fun i hi => by
      rw [Nat.testBit_div_two_pow]
      exact h2 _ (by omega))
    rw [if_pos (by rw [hm32, h0]; rfl), tz_32 hd (by omega) hl, bc_eq, show (32 : Int32) = nI 32 from by decide +kernel, nI_add, show 32 + (t - 32) = t by omega]
