/-! longs that count; the greatest common divisor, in steps -/
theorem lN_subN {a b : Nat} (h : b ≤ a) : lN a - lN b = lN (a - b) := by
  have : lN (a - b) + lN b = lN a := by rw [lN_add, Nat.sub_add_cancel h]
  rw [← this]
  grind
theorem lN_int {a : Nat} (h : a < 2 ^ 62) : (lN a).toInt = a := by
  show (BitVec.ofNat 64 a).toInt = a
  rw [BitVec.toInt_eq_toNat_of_lt]
  · rw [BitVec.toNat_ofNat, Nat.mod_eq_of_lt (by omega)]
  · rw [BitVec.toNat_ofNat, Nat.mod_eq_of_lt (by omega)]
    omega
theorem lN_div {a b : Nat} (ha : a < 2 ^ 62) (hb : b < 2 ^ 62) : lN a / lN b = lN (a / b) := by
  apply Int64.toInt_inj.mp
  have hq : a / b < 2 ^ 62 := Nat.lt_of_le_of_lt (Nat.div_le_self a b) ha
  rw [Int64.toInt_div, lN_int ha, lN_int hb, lN_int hq]
  have : Int.tdiv (a : Int) (b : Int) = ((a / b : Nat) : Int) := by
    rw [Int.tdiv_eq_ediv_of_nonneg (by omega)]
    rfl
  rw [this]
  clear this
  generalize a / b = q at hq
  show Int.bmod (q : Int) 18446744073709551616 = _
  rw [Int.bmod_def, if_pos (by omega)]
  omega
theorem lN_z {a : Nat} (h : a < 2 ^ 62) : lN a = 0 ↔ a = 0 := by
  have : (0 : Int64) = lN 0 := rfl
  rw [this, lN_inj (by omega) (by omega)]
theorem lN_rem {a b : Nat} (ha : a < 2 ^ 62) (hb : b < 2 ^ 62) : lN a - lN a / lN b * lN b = lN (a % b) := by
  rw [lN_div ha hb, lN_mul, lN_subN (Nat.div_mul_le_self a b)]
  have h2 := Nat.div_add_mod a b
  rw [Nat.mul_comm] at h2
  rw [show a - a / b * b = a % b by omega]
theorem half_mod {a b : Nat} (h : a < b) (h0 : 0 < a) : 2 * (b % a) < b := by
  have h1 := Nat.mod_lt b h0
  have h2 : b % a + a ≤ b := by
    have h3 := Nat.div_add_mod b a
    have h4 : 1 ≤ b / a := (Nat.one_le_div_iff h0).mpr (Nat.le_of_lt h)
    have h5 : a * 1 ≤ a * (b / a) := Nat.mul_le_mul_left a h4
    omega
  omega
section GC
variable {w : Wd}
theorem m_common : ∀ (k f a b : Nat), b < 2 ^ k → 2 * k < f → a < 2 ^ 62 → b < 2 ^ 62 → E_X12_common f (lN a) (lN b) w = some (lN (Nat.gcd b a), w) := by
  intro k
  induction k with
  | zero =>
    intro f a b hb hf ha hb2
    obtain ⟨f, rfl⟩ : ∃ n', f = n' + 1 := ⟨f - 1, by omega⟩
    have h0 : b = 0 := by omega
    subst h0
    show B_X12_common _ _ _ w = _
    unfold B_X12_common
    rw [if_pos (show lg_cmp (lN 0) 0 = 0 from lgz.mpr rfl), Nat.gcd_zero_left]
  | succ k ih =>
    intro f a b hb hf ha hb2
    obtain ⟨f, rfl⟩ : ∃ n', f = n' + 2 := ⟨f - 2, by omega⟩
    show B_X12_common (fun p0 p1 w => E_X12_common (f + 1) p0 p1 w) _ _ w = _
    unfold B_X12_common
    by_cases h0 : b = 0
    · rw [if_pos (lgz.mpr ((lN_z hb2).mpr h0)), h0, Nat.gcd_zero_left]
    · have hb0 : ¬ lN b = 0 := fun z => h0 ((lN_z hb2).mp z)
      have hlt := Nat.mod_lt a (Nat.pos_of_ne_zero h0)
      rw [if_neg (fun z => hb0 (lgz.mp z)), if_pos hb0, lN_rem ha hb2]
      have e1 : E_X12_common (f + 1) (lN b) (lN (a % b)) w = some (lN (Nat.gcd b a), w) := by
        rw [Nat.gcd_rec b a]
        by_cases h1 : a % b = 0
        · show B_X12_common _ _ _ w = _
          unfold B_X12_common
          rw [if_pos (lgz.mpr ((lN_z (by omega)).mpr h1)), h1, Nat.gcd_zero_left]
        · have hb1 : ¬ lN (a % b) = 0 := fun z => h1 ((lN_z (by omega)).mp z)
          show B_X12_common (fun p0 p1 w => E_X12_common f p0 p1 w) _ _ w = _
          unfold B_X12_common
          have hh := half_mod hlt (Nat.pos_of_ne_zero h1)
          rw [if_neg (fun z => hb1 (lgz.mp z)), if_pos hb1, lN_rem (by omega) (by omega), Nat.gcd_rec (a % b) b]
          exact (congrArg (fun o => bc o fun x2 w1 => some (x2, w1)) (ih f (a % b) (b % (a % b)) (by rw [Nat.pow_succ] at hb; omega) (by omega) (by omega) (by omega))).trans rfl
      exact (congrArg (fun o => bc o fun x2 w1 => some (x2, w1)) e1).trans rfl
theorem c_common {k3 : Int64 → Wd → Option Wd} {x1 x2 : Int64} : ∀ (k f a b j : Nat), b < 2 ^ k → 2 * k < f → j + 2 * k < 200 → a < 2 ^ 62 → b < 2 ^ 62 → L_X11_tellFraction_9 x1 x2 k3 f (lN a) (lN b) (nI j) w = k3 (lN (Nat.gcd b a)) w := by
  intro k
  induction k with
  | zero =>
    intro f a b j hb hf hj ha hb2
    obtain ⟨f, rfl⟩ : ∃ n', f = n' + 1 := ⟨f - 1, by omega⟩
    have h0 : b = 0 := by omega
    subst h0
    unfold L_X11_tellFraction_9
    rw [show (200 : Int32) = nI 200 from by decide +kernel, if_neg (nI_ge (by omega) (by omega)), if_pos (show lg_cmp (lN 0) 0 = 0 from lgz.mpr rfl), Nat.gcd_zero_left]
  | succ k ih =>
    intro f a b j hb hf hj ha hb2
    obtain ⟨f, rfl⟩ : ∃ n', f = n' + 2 := ⟨f - 2, by omega⟩
    have n200 : (200 : Int32) = nI 200 := by decide +kernel
    have s1 : L_X11_tellFraction_9 x1 x2 k3 (f + 2) (lN a) (lN b) (nI j) w = if lg_cmp (lN b) 0 = 0 then k3 (lN a) w else if ¬ (lN b) = 0 then L_X11_tellFraction_9 x1 x2 k3 (f + 1) (lN b) (lN a - lN a / lN b * lN b) (nI j + 1) w else none := by
      show (if (200 : Int32) ≤ nI j then _ else _) = _
      rw [n200, if_neg (nI_ge (by omega) (by omega))]
      rfl
    by_cases h0 : b = 0
    · rw [s1, if_pos (lgz.mpr ((lN_z hb2).mpr h0)), h0, Nat.gcd_zero_left]
    · have hb0 : ¬ lN b = 0 := fun z => h0 ((lN_z hb2).mp z)
      have hlt := Nat.mod_lt a (Nat.pos_of_ne_zero h0)
      rw [s1, if_neg (fun z => hb0 (lgz.mp z)), if_pos hb0, lN_rem ha hb2, nI_1, Nat.gcd_rec b a]
      have s2 : L_X11_tellFraction_9 x1 x2 k3 (f + 1) (lN b) (lN (a % b)) (nI (j + 1)) w = if lg_cmp (lN (a % b)) 0 = 0 then k3 (lN b) w else if ¬ (lN (a % b)) = 0 then L_X11_tellFraction_9 x1 x2 k3 f (lN (a % b)) (lN b - lN b / lN (a % b) * lN (a % b)) (nI (j + 1) + 1) w else none := by
        show (if (200 : Int32) ≤ nI (j + 1) then _ else _) = _
        rw [n200, if_neg (nI_ge (by omega) (by omega))]
        rfl
      by_cases h1 : a % b = 0
      · rw [s2, if_pos (lgz.mpr ((lN_z (by omega)).mpr h1)), h1, Nat.gcd_zero_left]
      · have hb1 : ¬ lN (a % b) = 0 := fun z => h1 ((lN_z (by omega)).mp z)
        have hh := half_mod hlt (Nat.pos_of_ne_zero h1)
        rw [s2, if_neg (fun z => hb1 (lgz.mp z)), if_pos hb1, lN_rem (by omega) (by omega), nI_1, ih f (a % b) (b % (a % b)) (j + 1 + 1) (by rw [Nat.pow_succ] at hb; omega) (by omega) (by omega) (by omega) (by omega), Nat.gcd_rec (a % b) b]
end GC
