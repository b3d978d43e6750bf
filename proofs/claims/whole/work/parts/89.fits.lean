/-! sets of PITS as bits; fits -/
def mk (f : Nat → Bool) : Nat → Nat
  | 0 => 0
  | n + 1 => mk f n ||| (if f n = true then 2 ^ n else 0)
theorem mk_bit {f : Nat → Bool} : ∀ n i, (mk f n).testBit i = (decide (i < n) && f i) := by
  intro n
  induction n with
  | zero => intro i; simp [mk]
  | succ n ih =>
    intro i
    show (mk f n ||| (if f n = true then 2 ^ n else 0)).testBit i = _
    rw [Nat.testBit_or, ih]
    by_cases hf : f n = true
    · rw [if_pos hf, Nat.testBit_two_pow]
      by_cases e : n = i
      · subst e
        simp [hf]
      · have : (i < n + 1) ↔ (i < n) := by omega
        simp [e, this]
    · rw [if_neg hf]
      by_cases e : n = i
      · subst e
        simp [hf]
      · have : (i < n + 1) ↔ (i < n) := by omega
        simp [this]
theorem mk_lt {f : Nat → Bool} : ∀ n, mk f n < 2 ^ n := by
  intro n
  induction n with
  | zero => exact Nat.one_pos
  | succ n ih =>
    refine Nat.or_lt_two_pow (Nat.lt_trans ih (Nat.pow_lt_pow_right (by decide) (by omega))) ?_
    split
    · exact Nat.pow_lt_pow_right (by decide) (by omega)
    · exact Nat.pow_pos (by decide)
theorem mk_and {f g : Nat → Bool} {n : Nat} : mk f n &&& mk g n = mk (fun i => f i && g i) n := by
  apply Nat.eq_of_testBit_eq
  intro i
  rw [Nat.testBit_and, mk_bit, mk_bit, mk_bit]
  cases decide (i < n) <;> simp
theorem mk_congr {f g : Nat → Bool} {n : Nat} (h : ∀ i, i < n → f i = g i) : mk f n = mk g n := by
  apply Nat.eq_of_testBit_eq
  intro i
  rw [mk_bit, mk_bit]
  by_cases hi : i < n
  · rw [h i hi]
  · simp [hi]
theorem nI_and (a b : Nat) : nI a &&& nI b = nI (a &&& b) := by
  apply Int32.toBitVec_inj.mp
  rw [Int32.toBitVec_and]
  exact (BitVec.ofNat_and (x := a) (y := b)).symm
theorem nI_or (a b : Nat) : nI a ||| nI b = nI (a ||| b) := by
  apply Int32.toBitVec_inj.mp
  rw [Int32.toBitVec_or]
  exact (BitVec.ofNat_or (x := a) (y := b)).symm
theorem shl12 : ∀ i, i < 13 → (1 : Int32) <<< (nI i &&& 31) = nI (2 ^ i) := by decide +kernel
theorem full12 : ∀ n, n < 13 → nI (2 ^ n) - 1 = nI (2 ^ n - 1) := by decide +kernel
theorem mk_full {n : Nat} : mk (fun _ => true) n = 2 ^ n - 1 := by
  apply Nat.eq_of_testBit_eq
  intro i
  rw [mk_bit, Nat.testBit_two_pow_sub_one]
  simp
def cnt (f : Nat → Bool) : Nat → Nat
  | 0 => 0
  | n + 1 => cnt f n + (if f n = true then 1 else 0)
theorem cnt_le {f : Nat → Bool} : ∀ n, cnt f n ≤ n := by
  intro n
  induction n with
  | zero => exact Nat.le_refl _
  | succ n ih =>
    show cnt f n + _ ≤ n + 1
    split <;> omega
theorem cnt_congr {f g : Nat → Bool} : ∀ n, (∀ i, i < n → f i = g i) → cnt f n = cnt g n := by
  intro n
  induction n with
  | zero => intro _; rfl
  | succ n ih =>
    intro h
    show cnt f n + _ = cnt g n + _
    rw [ih (fun i hi => h i (by omega)), h n (by omega)]
theorem cnt_split {f g : Nat → Bool} : ∀ n, cnt (fun i => f i && g i) n + cnt (fun i => f i && !(g i)) n = cnt f n := by
  intro n
  induction n with
  | zero => rfl
  | succ n ih =>
    show cnt (fun i => f i && g i) n + (if (f n && g n) = true then 1 else 0) + (cnt (fun i => f i && !(g i)) n + (if (f n && !(g n)) = true then 1 else 0)) = cnt f n + (if f n = true then 1 else 0)
    cases h1 : f n <;> cases h2 : g n <;> simp <;> omega
def w00 : Wd := (fun _ _ => 0, fun _ _ => 0, fun _ => 0)
def bcI (x : Int32) : Int32 := match D_J6_bitCount_0f7a4 x w00 with | some (v, _) => v | none => 0
theorem d_bc (x : Int32) (w : Wd) : D_J6_bitCount_0f7a4 x w = some (bcI x, w) := rfl
theorem bc_64 : ∀ a, a < 64 → ∀ b, b < 64 → bcI (nI (64 * a + b)) = nI (cnt (fun i => (64 * a + b).testBit i) 12) := by decide +kernel
theorem bc_12 (m : Nat) (hm : m < 4096) : bcI (nI m) = nI (cnt (fun i => m.testBit i) 12) := by
  have := bc_64 (m / 64) (by omega) (m % 64) (by omega)
  rw [show 64 * (m / 64) + m % 64 = m by omega] at this
  exact this
theorem bc_mk {f : Nat → Bool} {n : Nat} (hn : n ≤ 12) : bcI (nI (mk f n)) = nI (cnt f n) := by
  have hlt : mk f n < 4096 := Nat.lt_of_lt_of_le (mk_lt n) (show 2 ^ n ≤ 2 ^ 12 from Nat.pow_le_pow_right (by decide) hn)
  rw [bc_12 _ hlt]
  congr 1
  have key : ∀ m, cnt (fun i => (mk f n).testBit i) m = cnt f (min m n) := by
    intro m
    induction m with
    | zero => rw [Nat.zero_min]; rfl
    | succ m ih =>
      show cnt (fun i => (mk f n).testBit i) m + (if (mk f n).testBit m = true then 1 else 0) = _
      rw [ih, mk_bit]
      by_cases hm : m < n
      · rw [show min (m + 1) n = m + 1 by omega, show min m n = m by omega]
        show _ = cnt f m + _
        simp [hm]
      · rw [show min (m + 1) n = n by omega, show min m n = n by omega]
        simp [hm]
  rw [key, show min 12 n = n by omega]
/-- is a clue so of PIT i -/
def soF (c : Nat) (P : Nat → Nat) (i : Nat) (what v : Int32) : Bool := if what = 0 then decide (nI (i / c) = v) else if what = 1 then decide (v ≤ nI (P i)) else if what = 2 then decide (v ≤ nI (P (2 * c - 1 - i))) else if what = 3 then decide (nI (i % c) = v) else decide ((i / c = P 14) ↔ (v = 1))
section SO
variable {w u : Wd} {c i : Nat} {P : Nat → Nat}
theorem side_c (hc : 0 < c) (hi : i < 2 * c) : i / c = if c ≤ i then 1 else 0 := by
  by_cases h : c ≤ i
  · rw [if_pos h]
    exact (Nat.div_eq_iff hc).mpr (by omega)
  · rw [if_neg h]
    exact Nat.div_eq_of_lt (by omega)
theorem mod_c (hc : 0 < c) (hi : i < 2 * c) : i % c = if c ≤ i then i - c else i := by
  by_cases h : c ≤ i
  · rw [if_pos h, Nat.mod_eq_sub_mod h, Nat.mod_eq_of_lt (by omega)]
  · rw [if_neg h, Nat.mod_eq_of_lt (by omega)]
theorem c_isSo (h : isAt w 0 c P) (h2 : 2 ≤ c) (h6 : c ≤ 6) (hm : P 14 ≤ 1) (hi : i < 2 * c) (what v : Int32) : D_X11_isSo (nI i) what v w = some (if soF c P i what v = true then 1 else 0, w) := by
  have hside : D_X5_isOf 0 (nI i) 0 w = some (if c ≤ i then 0 else 1, w) := by
    unfold D_X5_isOf
    rw [isAt_c h, Int32.zero_mul, if_neg (nI_pos (by omega)), show (0 : Int32) + 1 = 1 from rfl, Int32.one_mul]
    by_cases hci : c ≤ i
    · rw [if_pos (nI_le hci (by omega)), if_pos hci]
    · rw [if_neg (nI_ge (by omega) (by omega)), if_neg hci]
  have hj : J_X11_isSo_j17_2 what v (nI i) (nI (i / c)) w = some (if soF c P i what v = true then 1 else 0, w) := by
    unfold J_X11_isSo_j17_2 soF
    by_cases e0 : what = 0
    · rw [if_pos e0, if_pos e0]
      by_cases hh : nI (i / c) = v
      · rw [if_pos hh, if_pos (by simpa using hh)]
      · rw [if_neg hh, if_neg (by simpa using hh)]
    rw [if_neg e0, if_neg e0]
    by_cases e1 : what = 1
    · rw [if_pos e1, if_pos e1, if_pos (ib_nI (by omega) (by decide)), nI_clamp (by omega), isAt_s h i (by omega)]
      by_cases hh : v ≤ nI (P i)
      · rw [if_neg (Int32.not_lt.mpr hh), if_pos (by simpa using hh)]
      · rw [if_pos (Int32.not_le.mp hh), if_neg (by simpa using hh)]
    rw [if_neg e1, if_neg e1]
    by_cases e2 : what = 2
    · rw [if_pos e2, if_pos e2]
      unfold D_X5_opposite
      rw [isAt_c h, nI_2', pk_mul, nI_1', pk_sub (by omega), pk_sub (by omega), bc_eq, if_pos (ib_nI (by omega) (by decide)), nI_clamp (by omega), isAt_s h _ (by omega)]
      by_cases hh : v ≤ nI (P (2 * c - 1 - i))
      · rw [if_neg (Int32.not_lt.mpr hh), if_pos (by simpa using hh)]
      · rw [if_pos (Int32.not_le.mp hh), if_neg (by simpa using hh)]
    rw [if_neg e2, if_neg e2]
    by_cases e3 : what = 3
    · have hd := side_c (c := c) (by omega) hi
      have hmd := mod_c (c := c) (by omega) hi
      have hle : i / c * c ≤ i := Nat.div_mul_le_self i c
      have hsub : i - i / c * c = i % c := by
        rw [hd, hmd]
        by_cases hci : c ≤ i
        · rw [if_pos hci, if_pos hci]; omega
        · rw [if_neg hci, if_neg hci]; omega
      rw [if_pos e3, if_pos e3, isAt_c h, pk_mul, pk_sub hle, hsub]
      by_cases hh : nI (i % c) = v
      · rw [if_pos hh, if_pos (by simpa using hh)]
      · rw [if_neg hh, if_neg (by simpa using hh)]
    rw [if_neg e3, if_neg e3, isAt_m h, bd_eq]
    have hd1 : i / c ≤ 1 := by
      rw [side_c (by omega) hi]
      split <;> omega
    have hst : nI (i / c) = nI (P 14) ↔ i / c = P 14 := nI_eq (by omega) (by omega)
    unfold J_X11_isSo_j148_1
    by_cases hs : i / c = P 14
    · rw [if_pos (hst.mpr hs)]
      by_cases hv : v = 1
      · rw [if_pos hv, if_pos rfl, if_pos (by simp [hs, hv])]
      · rw [if_neg hv, if_neg (by decide), if_neg (by simp [hs, hv])]
    · rw [if_neg (fun z => hs (hst.mp z))]
      by_cases hv : v = 1
      · rw [if_pos hv, if_neg (by decide), if_neg (by simp [hs, hv])]
      · rw [if_neg hv, if_pos rfl, if_pos (by simp [hs, hv])]
  unfold D_X11_isSo
  rw [hside, bc_eq, bd_eq, ← hj, side_c (by omega) hi]
  by_cases hci : c ≤ i
  · rw [if_pos hci, if_pos rfl, if_pos hci, ← nI_1']
  · rw [if_neg hci, if_neg (by decide), if_neg hci, nI_0]
theorem m_isOf (hc : u.1 119 1 = nI c) (h2 : 2 ≤ c) (h6 : c ≤ 6) (hi : i < 100) (v : Int32) : D_X12_isOf (nI i) v u = some (if nI (i / c) = v then 1 else 0, u) := by
  unfold D_X12_isOf
  rw [hc, if_pos (by rw [nI_z (by omega)]; omega), pk_div (by omega) (by omega) (by omega)]
  split <;> rfl
theorem m_isSo (h : u.1 120 = eP P) (hc : u.1 119 1 = nI c) (h2 : 2 ≤ c) (h6 : c ≤ 6) (hm : P 14 ≤ 1) (hi : i < 2 * c) (what v : Int32) : D_X12_isSo (nI i) what v u = some (if soF c P i what v = true then 1 else 0, u) := by
  unfold D_X12_isSo soF
  by_cases e0 : what = 0
  · rw [if_pos e0, if_pos e0, m_isOf hc h2 h6 (by omega), bc_eq]
    by_cases hh : nI (i / c) = v
    · rw [if_pos hh, if_pos (by decide), if_pos (by simpa using hh)]
    · rw [if_neg hh, if_pos (by decide), if_neg (by simpa using hh)]
  rw [if_neg e0, if_neg e0]
  by_cases e1 : what = 1
  · rw [if_pos e1, if_pos e1, if_pos (ib_nI (by omega) (by decide)), nI_clamp (by omega), h, eP_at]
    by_cases hh : v ≤ nI (P i)
    · rw [if_neg (Int32.not_lt.mpr hh), if_pos (by simpa using hh)]
    · rw [if_pos (Int32.not_le.mp hh), if_neg (by simpa using hh)]
  rw [if_neg e1, if_neg e1]
  by_cases e2 : what = 2
  · rw [if_pos e2, if_pos e2, d_pits12 hc, bc_eq, nI_1', pk_sub (by omega), pk_sub (by omega), if_pos (ib_nI (by omega) (by decide)), nI_clamp (by omega), h, eP_at]
    by_cases hh : v ≤ nI (P (2 * c - 1 - i))
    · rw [if_neg (Int32.not_lt.mpr hh), if_pos (by simpa using hh)]
    · rw [if_pos (Int32.not_le.mp hh), if_neg (by simpa using hh)]
  rw [if_neg e2, if_neg e2]
  by_cases e3 : what = 3
  · rw [if_pos e3, if_pos e3, hc, if_pos (by rw [nI_z (by omega)]; omega), pk_rem (by omega) (by omega) (by omega)]
    by_cases hh : nI (i % c) = v
    · rw [if_pos hh, if_pos (by simpa using hh)]
    · rw [if_neg hh, if_neg (by simpa using hh)]
  have hd1 : i / c ≤ 1 := by
    rw [side_c (by omega) hi]
    split <;> omega
  have hst : nI (i / c) = nI (P 14) ↔ i / c = P 14 := nI_eq (by omega) (by omega)
  rw [if_neg e3, if_neg e3, if_pos (by decide), h, show (14 : Int32).toNatClampNeg = 14 from by decide, eP_at, m_isOf hc h2 h6 (by omega), bc_eq]
  by_cases hs : i / c = P 14
  · rw [if_pos (hst.mpr hs)]
    by_cases hv : v = 1
    · rw [if_pos hv, if_pos rfl, if_pos (by simp [hs, hv])]
    · rw [if_neg hv, if_neg (by decide), if_neg (by simp [hs, hv])]
  · rw [if_neg (fun z => hs (hst.mp z))]
    by_cases hv : v = 1
    · rw [if_pos hv, if_neg (by decide), if_neg (by simp [hs, hv])]
    · rw [if_neg hv, if_pos rfl, if_pos (by simp [hs, hv])]
theorem c_pocloop {k : Int32 → Wd → Option (Int32 × Wd)} (h : isAt w 0 c P) (h2 : 2 ≤ c) (h6 : c ≤ 6) (hm : P 14 ≤ 1) (what v : Int32) : ∀ (n i fu : Nat), n + i = 2 * c → n < fu → L_X11_pitsOfClue_5 what v k fu (nI (mk (fun j => soF c P j what v) i)) (nI i) w = k (nI (mk (fun j => soF c P j what v) (2 * c))) w := by
  intro n
  induction n with
  | zero =>
    intro i fu hi hf
    obtain ⟨fu, rfl⟩ : ∃ n', fu = n' + 1 := ⟨fu - 1, by omega⟩
    unfold L_X11_pitsOfClue_5 D_X5_pits
    rw [isAt_c h, nI_2', pk_mul, bc_eq, if_pos (nI_le (by omega) (by omega)), show i = 2 * c by omega]
  | succ n ih =>
    intro i fu hi hf
    obtain ⟨fu, rfl⟩ : ∃ n', fu = n' + 1 := ⟨fu - 1, by omega⟩
    unfold L_X11_pitsOfClue_5 D_X5_pits
    rw [isAt_c h, nI_2', pk_mul, bc_eq, if_neg (nI_ge (by omega) (by omega)), c_isSo h h2 h6 hm (by omega), bc_eq, bd_eq]
    unfold J_X11_pitsOfClue_j35_1
    rw [bd_eq, bd_eq, bd_eq, nI_1, shl12 i (by omega), nI_or]
    have ih' := ih (i + 1) fu (by omega) (by omega)
    have e : mk (fun j => soF c P j what v) (i + 1) = mk (fun j => soF c P j what v) i ||| (if soF c P i what v = true then 2 ^ i else 0) := rfl
    by_cases hs : soF c P i what v = true
    · rw [if_pos hs] at e
      rw [e] at ih'
      rw [if_pos hs, if_neg (by decide)]
      exact ih'
    · rw [if_neg hs, Nat.or_zero] at e
      rw [e] at ih'
      rw [if_neg hs, if_pos rfl]
      exact ih'
theorem c_pitsOf (h : isAt w 0 c P) (h2 : 2 ≤ c) (h6 : c ≤ 6) (hm : P 14 ≤ 1) (what v : Int32) : D_X11_pitsOfClue what v w = some (nI (mk (fun j => soF c P j what v) (2 * c)), w) := by
  have := c_pocloop (k := J_X11_pitsOfClue_x41_2) h h2 h6 hm what v (2 * c) 0 FU (by omega) (by unfold FU; omega)
  rw [nI_0, show mk (fun j => soF c P j what v) 0 = 0 from rfl, nI_0] at this
  exact this
/-- all clues are so of PIT i -/
def allF (c : Nat) (P : Nat → Nat) (l : List (Int32 × Int32)) (i : Nat) : Bool := l.all (fun q => soF c P i q.1 q.2)
theorem c_fitloop {k : Int32 → Wd → Option (Int32 × Wd)} {cl : List (Int32 × Int32)} (h : isAt w 0 c P) (h2 : 2 ≤ c) (h6 : c ≤ 6) (hm : P 14 ≤ 1) (hn : noteC w 112 12 cl) (hl : cl.length ≤ 12) : ∀ (n i fu : Nat), n + i = cl.length → n < fu → L_X11_fittingPits_14 k fu (nI (mk (allF c P (cl.take i)) (2 * c))) (nI i) w = k (nI (mk (allF c P cl) (2 * c))) w := by
  intro n
  induction n with
  | zero =>
    intro i fu hi hf
    obtain ⟨fu, rfl⟩ : ∃ n', fu = n' + 1 := ⟨fu - 1, by omega⟩
    unfold L_X11_fittingPits_14
    rw [hn.2.1, if_pos (nI_le (by omega) (by omega)), List.take_of_length_le (by omega)]
  | succ n ih =>
    intro i fu hi hf
    obtain ⟨fu, rfl⟩ : ∃ n', fu = n' + 1 := ⟨fu - 1, by omega⟩
    have hx : cl[i]? = some cl[i] := List.getElem?_eq_getElem (by omega)
    obtain ⟨q1, q2⟩ := hn.2.2 i cl[i].1 cl[i].2 hx
    unfold L_X11_fittingPits_14
    rw [hn.2.1, if_neg (nI_ge (by omega) (by omega)), if_pos (ib_nI (by omega) (by decide)), if_pos (ib_nI (by omega) (by decide)), nI_clamp (by omega), q1, q2, c_pitsOf h h2 h6 hm, bc_eq, bd_eq, bd_eq, nI_1, nI_and, mk_and]
    have e : (fun j => allF c P (cl.take i) j && soF c P j cl[i].1 cl[i].2) = allF c P (cl.take (i + 1)) := by
      funext j
      unfold allF
      rw [List.take_add_one, hx, List.all_append]
      simp
    rw [e]
    exact ih (i + 1) fu (by omega) (by omega)
theorem c_fitting {cl : List (Int32 × Int32)} (h : isAt w 0 c P) (h2 : 2 ≤ c) (h6 : c ≤ 6) (hm : P 14 ≤ 1) (hn : noteC w 112 12 cl) (hl : cl.length ≤ 12) : D_X11_fittingPits w = some (nI (mk (allF c P cl) (2 * c)), w) := by
  have := c_fitloop (k := J_X11_fittingPits_x56_1) h h2 h6 hm hn hl cl.length 0 FU (by omega) (by unfold FU; omega)
  rw [nI_0, show mk (allF c P (cl.take 0)) (2 * c) = mk (fun _ => true) (2 * c) from mk_congr (fun i _ => by unfold allF; simp), mk_full] at this
  unfold D_X11_fittingPits D_X5_pits
  rw [isAt_c h, nI_2', pk_mul, bc_eq, bd_eq, shl12 _ (by omega), full12 _ (by omega), this]
  rfl
theorem m_clueloop {k : Int32 → Wd → Option (Int32 × Wd)} {cl : List (Int32 × Int32)} (h : u.1 120 = eP P) (hc : u.1 119 1 = nI c) (h2 : 2 ≤ c) (h6 : c ≤ 6) (hm : P 14 ≤ 1) (hn : heardM u cl) (hl : cl.length ≤ 12) {x8 : Int32} (hi : i < 2 * c) : ∀ (n j fu : Nat), n + j = cl.length → n < fu → L_X12_fitting_17 x8 (nI i) k fu (if allF c P (cl.take j) i = true then 1 else 0) (nI j) u = k (if allF c P cl i = true then 1 else 0) u := by
  intro n
  induction n with
  | zero =>
    intro j fu hj hf
    obtain ⟨fu, rfl⟩ : ∃ n', fu = n' + 1 := ⟨fu - 1, by omega⟩
    unfold L_X12_fitting_17
    rw [hn.1, if_pos (nI_le (by omega) (by omega)), List.take_of_length_le (by omega)]
  | succ n ih =>
    intro j fu hj hf
    obtain ⟨fu, rfl⟩ : ∃ n', fu = n' + 1 := ⟨fu - 1, by omega⟩
    have hx : cl[j]? = some cl[j] := List.getElem?_eq_getElem (by omega)
    obtain ⟨q1, q2⟩ := hn.2 j cl[j].1 cl[j].2 hx
    have ih' := ih (j + 1) fu (by omega) (by omega)
    have e : allF c P (cl.take (j + 1)) i = (allF c P (cl.take j) i && soF c P i cl[j].1 cl[j].2) := by
      unfold allF
      rw [List.take_add_one, hx, List.all_append]
      simp
    unfold L_X12_fitting_17
    rw [hn.1, if_neg (nI_ge (by omega) (by omega)), bd_eq, bd_eq]
    unfold J_X12_fitting_j56_1 J_X12_fitting_j57_2
    rw [bd_eq, nI_1]
    cases ha : allF c P (cl.take j) i with
    | false =>
      rw [ha, Bool.false_and] at e
      rw [e] at ih'
      rw [if_pos (by decide)]
      exact ih'
    | true =>
      rw [ha, Bool.true_and] at e
      rw [if_neg (by decide), if_pos (ib_nI (by omega) (by decide)), if_pos (ib_nI (by omega) (by decide)), nI_clamp (by omega), q1, q2, m_isSo h hc h2 h6 hm hi, bc_eq]
      cases hs : soF c P i cl[j].1 cl[j].2 with
      | false =>
        rw [e, hs] at ih'
        rw [if_pos (by decide), bd_eq]
        exact ih'
      | true =>
        rw [e, hs] at ih'
        rw [if_neg (by decide), bd_eq]
        exact ih'
theorem m_fitloop {k : Int32 → Wd → Option (Int32 × Wd)} {cl : List (Int32 × Int32)} (h : u.1 120 = eP P) (hc : u.1 119 1 = nI c) (h2 : 2 ≤ c) (h6 : c ≤ 6) (hm : P 14 ≤ 1) (hn : heardM u cl) (hl : cl.length ≤ 12) : ∀ (n i fu : Nat), n + i = 2 * c → n < fu → L_X12_fitting_4 k fu (nI (mk (allF c P cl) i)) (nI i) u = k (nI (mk (allF c P cl) (2 * c))) u := by
  intro n
  induction n with
  | zero =>
    intro i fu hi hf
    obtain ⟨fu, rfl⟩ : ∃ n', fu = n' + 1 := ⟨fu - 1, by omega⟩
    unfold L_X12_fitting_4
    rw [d_pits12 hc, bc_eq, if_pos (nI_le (by omega) (by omega)), show i = 2 * c by omega]
  | succ n ih =>
    intro i fu hi hf
    obtain ⟨fu, rfl⟩ : ∃ n', fu = n' + 1 := ⟨fu - 1, by omega⟩
    have cll := m_clueloop (k := J_X12_fitting_x64_4 (L_X12_fitting_4 k fu) (nI (mk (allF c P cl) i)) (nI i)) h hc h2 h6 hm hn hl (x8 := nI (mk (allF c P cl) i)) (i := i) (by omega) cl.length 0 FU (by omega) (by unfold FU; omega)
    rw [nI_0, show allF c P (cl.take 0) i = true from by unfold allF; simp, if_pos rfl] at cll
    unfold L_X12_fitting_4
    rw [d_pits12 hc, bc_eq, if_neg (nI_ge (by omega) (by omega)), cll]
    unfold J_X12_fitting_x64_4
    have ih' := ih (i + 1) fu (by omega) (by omega)
    have e : mk (allF c P cl) (i + 1) = mk (allF c P cl) i ||| (if allF c P cl i = true then 2 ^ i else 0) := rfl
    rw [bd_eq]
    by_cases hs : allF c P cl i = true
    · rw [if_pos hs] at e
      rw [e] at ih'
      rw [if_pos hs, if_neg (by decide)]
      unfold J_X12_fitting_j76_3
      rw [bd_eq, bd_eq, nI_1, shl12 i (by omega), nI_or]
      exact ih'
    · rw [if_neg hs, Nat.or_zero] at e
      rw [e] at ih'
      rw [if_neg hs, if_pos rfl]
      unfold J_X12_fitting_j76_3
      rw [bd_eq, bd_eq, nI_1, Int32.or_zero]
      exact ih'
theorem m_fitting {cl : List (Int32 × Int32)} (h : u.1 120 = eP P) (hc : u.1 119 1 = nI c) (h2 : 2 ≤ c) (h6 : c ≤ 6) (hm : P 14 ≤ 1) (hn : heardM u cl) (hl : cl.length ≤ 12) : D_X12_fitting u = some (nI (mk (allF c P cl) (2 * c)), u) := by
  have := m_fitloop (k := J_X12_fitting_x84_5) h hc h2 h6 hm hn hl (2 * c) 0 FU (by omega) (by unfold FU; omega)
  rw [nI_0, show mk (allF c P cl) 0 = 0 from rfl, nI_0] at this
  exact this
end SO
theorem q_fits : Quest D_X11_fits D_X12_fits := by
  intro w c L P hs tx rl cd V kp cl si rw B m ok okr
  have hB := okB_of ok
  have h6 := hB.2.1
  have hl := ok.2.2.2.2.2.2.2.1
  obtain ⟨w2, t1, t2, t3⟩ := d_tell1 w (bcI (nI (mk (allF c P cl) (2 * c)))).toInt64
  obtain ⟨k1, k2⟩ := CR_q m (qC_hi t3 (by decide) (by decide) (by decide)) t2
  refine ⟨nI (mk (allF c P cl) (2 * c)), [(bcI (nI (mk (allF c P cl) (2 * c)))).toInt64], by simp, ⟨w2, ?_, k1, k2⟩, fun u n => ?_⟩
  · unfold D_X11_fits
    rw [c_fitting m.1 hB.1 h6 hB.2.2.2.1 m.2.2.2.2.2.2.2.1 hl, bc_eq, d_bc, bc_eq, t1, bv_eq]
  · obtain ⟨n', on'⟩ := MR_7 n
    obtain ⟨u2, g2, r2, s2⟩ := d_tellM (row0M (wI u 119 7 0)) (by decide) (bcI (nI (mk (allF c P cl) (2 * c)))).toInt64
    obtain ⟨k3, k4⟩ := MR_q n' (qM_tr (qM_f (k := 6) (v := 0) (by decide)) (qM_tell s2)) r2
    refine ⟨u2, ?_, k3, onM_tr on' k4⟩
    unfold D_X12_fits
    rw [bd_eq, m_fitting n'.2.2.1.1 n'.1 hB.1 h6 hB.2.2.2.1 n'.2.2.2.2.2.2.2.1 hl, bc_eq, bd_eq, d_bc, bc_eq, g2, bv_eq]
