/-! asks -/
theorem sh12 : ∀ i, i < 12 → ((nI i &&& 31).toBitVec.smod 32).toNat = i := by decide +kernel
theorem d_has {m i : Nat} (hm : m < 4096) (hi : i < 12) (u : Wd) : D_X12_has (nI m) (nI i) u = some (if m.testBit i = true then 1 else 0, u) := by
  unfold D_X12_has
  rw [pk_shrN (by omega) _ i (sh12 i hi), nI_1', nI_and, Nat.and_one_is_mod, Nat.testBit_eq_decide_div_mod_eq]
  have hlt : m / 2 ^ i % 2 < 2 := Nat.mod_lt _ (by decide)
  have he : nI (m / 2 ^ i % 2) = nI 1 ↔ m / 2 ^ i % 2 = 1 := nI_eq (by omega) (by decide)
  by_cases h : m / 2 ^ i % 2 = 1
  · rw [if_pos (he.mpr h), if_pos (by simpa using h)]
  · rw [if_neg (fun z => h (he.mp z)), if_neg (by simpa using h)]
theorem nI_not (b : Nat) : nI b ^^^ (-1) = nI (b ^^^ (2 ^ 32 - 1)) := by
  apply Int32.toBitVec_inj.mp
  rw [Int32.toBitVec_xor]
  exact (BitVec.ofNat_xor (x := b) (y := 2 ^ 32 - 1)).symm
theorem mk_andNot {f g : Nat → Bool} {n : Nat} (hn : n ≤ 12) : nI (mk f n) &&& (nI (mk g n) ^^^ (-1)) = nI (mk (fun i => f i && !(g i)) n) := by
  rw [nI_not, nI_and]
  congr 1
  apply Nat.eq_of_testBit_eq
  intro i
  rw [Nat.testBit_and, Nat.testBit_xor, mk_bit, mk_bit, mk_bit, Nat.testBit_two_pow_sub_one]
  by_cases hi : i < n
  · have : i < 32 := by omega
    simp [hi, this]
  · simp [hi]
theorem imax_nn {a b : Nat} (ha : a < 2 ^ 31) (hb : b < 2 ^ 31) : imax (nI a) (nI b) = nI (max a b) := by
  unfold imax
  by_cases h : a < b
  · rw [if_pos (nI_lt h hb), Nat.max_eq_right (by omega)]
  · rw [if_neg (nI_nlt (by omega) ha), Nat.max_eq_left (by omega)]
def hiN (a : Nat) : Nat := if a = 0 then 1 else if a = 4 then 1 else if a = 3 then 5 else 9
theorem hiN_9 (a : Nat) : hiN a ≤ 9 := by
  unfold hiN
  split
  · decide
  · split
    · decide
    · split <;> decide
theorem told_hiN {a : Nat} (h : a ≤ 4) : told5 a = nI (hiN a) ∧ ∀ u : Wd, D_X12_highOf (nI a) u = some (nI (hiN a), u) := by
  obtain ⟨h1, h2⟩ := told_hi a h
  exact ⟨h1, fun u => by rw [h2, h1]; rfl⟩
/-- the best ask among n from j on, behind s -/
def asF (g : Nat → Nat) : Nat → Nat → Int32 × Int32 → Int32 × Int32
  | 0, _, s => s
  | n + 1, j, s => asF g n (j + 1) (if j % 10 ≤ hiN (j / 10) then (if s.1 ≤ nI (g j) then s else (nI (g j), nI j)) else s)
theorem asF_add {g : Nat → Nat} : ∀ n m j s, asF g (n + m) j s = asF g m (j + n) (asF g n j s) := by
  intro n
  induction n with
  | zero => intro m j s; rw [Nat.zero_add]; rfl
  | succ n ih =>
    intro m j s
    rw [show n + 1 + m = (n + m) + 1 by omega]
    show asF g (n + m) (j + 1) _ = asF g m (j + (n + 1)) (asF g n (j + 1) _)
    rw [ih, show j + 1 + n = j + (n + 1) by omega]
theorem asF_skip {g : Nat → Nat} {a : Nat} : ∀ n v s, n + v = 10 → hiN a < v → asF g n (10 * a + v) s = s := by
  intro n
  induction n with
  | zero => intro v s _ _; rfl
  | succ n ih =>
    intro v s hv hh
    unfold asF
    rw [if_neg (by rw [show (10 * a + v) % 10 = v by omega, show (10 * a + v) / 10 = a by omega]; omega)]
    exact ih (v + 1) s (by omega) (by omega)
/-- how many are left at most by ask j -/
def lfN (c : Nat) (P : Nat → Nat) (F : Nat → Bool) (j : Nat) : Nat := max (cnt (fun i => F i && soF c P i (nI (j / 10)) (nI (j % 10))) (2 * c)) (cnt (fun i => F i && !(soF c P i (nI (j / 10)) (nI (j % 10)))) (2 * c))
theorem lfN_le {c : Nat} {P : Nat → Nat} {F : Nat → Bool} {j : Nat} : lfN c P F j ≤ 2 * c := Nat.max_le.mpr ⟨cnt_le _, cnt_le _⟩
section AS
variable {w u : Wd} {c : Nat} {P : Nat → Nat} {F : Nat → Bool}
theorem c_asIn {k : Int32 → Int32 → Wd → Option (Int32 × Wd)} (h : isAt w 0 c P) (h2 : 2 ≤ c) (h6 : c ≤ 6) (hm : P 14 ≤ 1) {a : Nat} (ha : a < 5) : ∀ (n v fu : Nat) (s : Int32 × Int32), n + v = 10 → n < fu → L_X11_asks_39 (nI (mk F (2 * c))) (nI a) k fu s.1 s.2 (nI v) w = k (asF (lfN c P F) n (10 * a + v) s).1 (asF (lfN c P F) n (10 * a + v) s).2 w := by
  intro n
  have h9 := hiN_9 a
  induction n with
  | zero =>
    intro v fu s hv hf
    obtain ⟨fu, rfl⟩ : ∃ n', fu = n' + 1 := ⟨fu - 1, by omega⟩
    unfold L_X11_asks_39
    rw [if_pos (ib_nI ha (by decide)), nI_clamp (by omega), (told_hiN (by omega)).1, if_pos (nI_lt (by omega) (by omega))]
    rfl
  | succ n ih =>
    intro v fu s hv hf
    obtain ⟨fu, rfl⟩ : ∃ n', fu = n' + 1 := ⟨fu - 1, by omega⟩
    unfold L_X11_asks_39
    rw [if_pos (ib_nI ha (by decide)), nI_clamp (by omega), (told_hiN (by omega)).1]
    by_cases hh : hiN a < v
    · rw [if_pos (nI_lt hh (by omega)), asF_skip _ _ _ hv hh]
    · have e10 : (10 * a + v) / 10 = a := by omega
      have em : (10 * a + v) % 10 = v := by omega
      have eg : lfN c P F (10 * a + v) = max (cnt (fun i => F i && soF c P i (nI a) (nI v)) (2 * c)) (cnt (fun i => F i && !(soF c P i (nI a) (nI v))) (2 * c)) := by
        unfold lfN
        rw [e10, em]
      have l1 := cnt_le (f := fun i => F i && soF c P i (nI a) (nI v)) (2 * c)
      have l2 := cnt_le (f := fun i => F i && !(soF c P i (nI a) (nI v))) (2 * c)
      rw [if_neg (nI_nlt (by omega) (by omega)), c_pitsOf h h2 h6 hm, bc_eq, nI_and, mk_and, d_bc, bc_mk (by omega), bc_eq, mk_andNot (by omega), d_bc, bc_mk (by omega), bc_eq, bd_eq, bd_eq, imax_nn (by omega) (by omega), ← eg, show (10 : Int32) = nI 10 from by decide +kernel, pk_mul, nI_add]
      unfold J_X11_asks_j99_1 asF
      rw [if_pos (show (10 * a + v) % 10 ≤ hiN ((10 * a + v) / 10) by rw [e10, em]; omega), bd_eq, bd_eq, bd_eq, nI_1]
      by_cases hs : s.1 ≤ nI (lfN c P F (10 * a + v))
      · rw [if_pos hs, if_pos hs]
        exact ih (v + 1) fu s (by omega) (by omega)
      · rw [if_neg hs, if_neg hs]
        exact ih (v + 1) fu (nI (lfN c P F (10 * a + v)), nI (10 * a + v)) (by omega) (by omega)
theorem c_asOut {k : Int32 → Int32 → Wd → Option (Int32 × Wd)} (h : isAt w 0 c P) (h2 : 2 ≤ c) (h6 : c ≤ 6) (hm : P 14 ≤ 1) : ∀ (m a fu : Nat) (s : Int32 × Int32), m + a = 5 → m < fu → L_X11_asks_27 (nI (mk F (2 * c))) k fu s.1 s.2 (nI a) w = k (asF (lfN c P F) (10 * m) (10 * a) s).1 (asF (lfN c P F) (10 * m) (10 * a) s).2 w := by
  intro m
  induction m with
  | zero =>
    intro a fu s ha hf
    obtain ⟨fu, rfl⟩ : ∃ n', fu = n' + 1 := ⟨fu - 1, by omega⟩
    unfold L_X11_asks_27
    rw [show (5 : Int32) = nI 5 from by decide +kernel, if_pos (nI_le (by omega) (by omega))]
    rfl
  | succ m ih =>
    intro a fu s ha hf
    obtain ⟨fu, rfl⟩ : ∃ n', fu = n' + 1 := ⟨fu - 1, by omega⟩
    have hin := c_asIn (F := F) (k := J_X11_asks_x105_2 (L_X11_asks_27 (nI (mk F (2 * c))) k fu) (nI a)) h h2 h6 hm (a := a) (by omega) 10 0 FU s rfl (by unfold FU; omega)
    rw [nI_0, Nat.add_zero] at hin
    unfold L_X11_asks_27
    rw [show (5 : Int32) = nI 5 from by decide +kernel, if_neg (nI_ge (by omega) (by omega)), hin]
    unfold J_X11_asks_x105_2
    rw [bd_eq, nI_1, ih (a + 1) fu _ (by omega) (by omega), show 10 * (m + 1) = 10 + 10 * m by omega, asF_add, show 10 * (a + 1) = 10 * a + 10 by omega]
theorem m_yes {k : Int32 → Wd → Option (Int32 × Wd)} {x7 x8 : Int32} (h : u.1 120 = eP P) (hc : u.1 119 1 = nI c) (h2 : 2 ≤ c) (h6 : c ≤ 6) (hm : P 14 ≤ 1) {j : Nat} (hj : j < 50) : ∀ (n i fu : Nat), n + i = 2 * c → n < fu → L_X12_asks_58 (nI (mk F (2 * c))) x7 x8 (nI j) k fu (nI (cnt (fun q => F q && soF c P q (nI (j / 10)) (nI (j % 10))) i)) (nI i) u = k (nI (cnt (fun q => F q && soF c P q (nI (j / 10)) (nI (j % 10))) (2 * c))) u := by
  intro n
  induction n with
  | zero =>
    intro i fu hi hf
    obtain ⟨fu, rfl⟩ : ∃ n', fu = n' + 1 := ⟨fu - 1, by omega⟩
    unfold L_X12_asks_58
    rw [d_pits12 hc, bc_eq, if_pos (nI_le (by omega) (by omega)), show i = 2 * c by omega]
  | succ n ih =>
    intro i fu hi hf
    obtain ⟨fu, rfl⟩ : ∃ n', fu = n' + 1 := ⟨fu - 1, by omega⟩
    have hlt : mk F (2 * c) < 4096 := Nat.lt_of_lt_of_le (mk_lt _) (show 2 ^ (2 * c) ≤ 2 ^ 12 from Nat.pow_le_pow_right (by decide) (by omega))
    have hb : (mk F (2 * c)).testBit i = F i := by
      rw [mk_bit]
      simp [show i < 2 * c by omega]
    have n10 : (10 : Int32) = nI 10 := by decide +kernel
    have hz : ¬ (10 : Int32) = 0 := by decide
    have ih' := ih (i + 1) fu (by omega) (by omega)
    have e : cnt (fun q => F q && soF c P q (nI (j / 10)) (nI (j % 10))) (i + 1) = cnt (fun q => F q && soF c P q (nI (j / 10)) (nI (j % 10))) i + (if (F i && soF c P i (nI (j / 10)) (nI (j % 10))) = true then 1 else 0) := rfl
    unfold L_X12_asks_58
    rw [d_pits12 hc, bc_eq, if_neg (nI_ge (by omega) (by omega)), d_has hlt (by omega), hb, bc_eq, bd_eq, bd_eq, if_pos hz, n10, pk_rem (by omega) (by decide) (by decide), pk_div (by omega) (by decide) (by decide), m_isSo h hc h2 h6 hm (by omega), bc_eq]
    unfold J_X12_asks_j101_1
    cases hF : F i with
    | false =>
      rw [hF, Bool.false_and, if_neg (by decide), Nat.add_zero] at e
      rw [e] at ih'
      rw [if_pos (by decide)]
      unfold J_X12_asks_j102_2
      rw [bd_eq, bd_eq, nI_1, Int32.add_zero]
      exact ih'
    | true =>
      rw [if_neg (by decide), if_pos (by rw [← n10]; exact hz)]
      cases hs : soF c P i (nI (j / 10)) (nI (j % 10)) with
      | false =>
        rw [hF, hs, Bool.true_and, if_neg (by decide), Nat.add_zero] at e
        rw [e] at ih'
        rw [if_pos (by decide)]
        unfold J_X12_asks_j102_2
        rw [bd_eq, bd_eq, nI_1, Int32.add_zero]
        exact ih'
      | true =>
        rw [hF, hs, Bool.true_and, if_pos rfl] at e
        rw [e] at ih'
        rw [if_neg (by decide)]
        unfold J_X12_asks_j102_2
        rw [bd_eq, bd_eq, nI_1, nI_1]
        exact ih'
theorem m_asks {k : Int32 → Int32 → Wd → Option (Int32 × Wd)} (h : u.1 120 = eP P) (hc : u.1 119 1 = nI c) (h2 : 2 ≤ c) (h6 : c ≤ 6) (hm : P 14 ≤ 1) : ∀ (n j fu : Nat) (s : Int32 × Int32), n + j = 50 → n < fu → L_X12_asks_26 (nI (mk F (2 * c))) k fu s.2 s.1 (nI j) u = k (asF (lfN c P F) n j s).2 (asF (lfN c P F) n j s).1 u := by
  intro n
  induction n with
  | zero =>
    intro j fu s hj hf
    obtain ⟨fu, rfl⟩ : ∃ n', fu = n' + 1 := ⟨fu - 1, by omega⟩
    unfold L_X12_asks_26
    rw [show (50 : Int32) = nI 50 from by decide +kernel, if_pos (nI_le (by omega) (by omega))]
    rfl
  | succ n ih =>
    intro j fu s hj hf
    obtain ⟨fu, rfl⟩ : ∃ n', fu = n' + 1 := ⟨fu - 1, by omega⟩
    have n10 : (10 : Int32) = nI 10 := by decide +kernel
    have hz : ¬ (10 : Int32) = 0 := by decide
    have h9 := hiN_9 (j / 10)
    unfold L_X12_asks_26
    rw [show (50 : Int32) = nI 50 from by decide +kernel, if_neg (nI_ge (by omega) (by omega)), if_pos hz, if_pos hz, n10, pk_rem (by omega) (by decide) (by decide), pk_div (by omega) (by decide) (by decide), (told_hiN (a := j / 10) (by omega)).2, bc_eq, bd_eq]
    unfold asF
    by_cases hv : j % 10 ≤ hiN (j / 10)
    · have hy := m_yes (F := F) (k := J_X12_asks_x111_3 (nI (mk F (2 * c))) s.1 (J_X12_asks_j140_4 (L_X12_asks_26 (nI (mk F (2 * c))) k fu) (nI j)) (nI j) s.2) (x7 := s.2) (x8 := s.1) h hc h2 h6 hm (j := j) (by omega) (2 * c) 0 FU (by omega) (by unfold FU; omega)
      rw [nI_0, show cnt (fun q => F q && soF c P q (nI (j / 10)) (nI (j % 10))) 0 = 0 from rfl, nI_0] at hy
      have hsp := cnt_split (f := F) (g := fun q => soF c P q (nI (j / 10)) (nI (j % 10))) (2 * c)
      have l1 := cnt_le (f := fun i => F i && soF c P i (nI (j / 10)) (nI (j % 10))) (2 * c)
      have l2 := cnt_le (f := fun i => F i && !(soF c P i (nI (j / 10)) (nI (j % 10)))) (2 * c)
      rw [if_pos (nI_le hv (by omega)), hy, if_pos hv]
      unfold J_X12_asks_x111_3
      rw [d_bc, bc_mk (by omega), bc_eq, bd_eq, pk_sub (by omega), show cnt F (2 * c) - cnt (fun q => F q && soF c P q (nI (j / 10)) (nI (j % 10))) (2 * c) = cnt (fun i => F i && !(soF c P i (nI (j / 10)) (nI (j % 10)))) (2 * c) by omega, imax_nn (by omega) (by omega), show max (cnt (fun q => F q && soF c P q (nI (j / 10)) (nI (j % 10))) (2 * c)) (cnt (fun i => F i && !(soF c P i (nI (j / 10)) (nI (j % 10)))) (2 * c)) = lfN c P F j from rfl]
      unfold J_X12_asks_j140_4
      rw [bd_eq, bd_eq, nI_1]
      by_cases hs : s.1 ≤ nI (lfN c P F j)
      · rw [if_neg (Int32.not_lt.mpr hs), if_pos hs]
        exact ih (j + 1) fu s (by omega) (by omega)
      · rw [if_pos (Int32.not_le.mp hs), if_neg hs]
        exact ih (j + 1) fu (nI (lfN c P F j), nI j) (by omega) (by omega)
    · rw [if_neg (nI_ge (by omega) (by omega)), if_neg hv]
      unfold J_X12_asks_j140_4
      rw [bd_eq, nI_1]
      exact ih (j + 1) fu s (by omega) (by omega)
end AS
theorem q_asks : Quest D_X11_asks D_X12_asks := by
  intro w c L P hs tx rl cd V kp cl si rw B m ok okr
  have hB := okB_of ok
  have h6 := hB.2.1
  have hl := ok.2.2.2.2.2.2.2.1
  have hlt : mk (allF c P cl) (2 * c) < 4096 := Nat.lt_of_lt_of_le (mk_lt _) (show 2 ^ (2 * c) ≤ 2 ^ 12 from Nat.pow_le_pow_right (by decide) (by omega))
  have hfc := c_fitting m.1 hB.1 h6 hB.2.2.2.1 m.2.2.2.2.2.2.2.1 hl
  by_cases h0 : mk (allF c P cl) (2 * c) = 0
  · refine ⟨-2, rw, okS_rw ok, ⟨w, ?_, m, onC_rf w⟩, fun u n => ⟨_, ?_, (MR_7 n).1, (MR_7 n).2⟩⟩
    · unfold D_X11_asks
      rw [hfc, bc_eq, h0, if_pos (by decide)]
    · obtain ⟨n', on'⟩ := MR_7 n
      unfold D_X12_asks
      rw [bd_eq, m_fitting n'.2.2.1.1 n'.1 hB.1 h6 hB.2.2.2.1 n'.2.2.2.2.2.2.2.1 hl, bc_eq, h0, if_pos (by decide)]
  · have hz : ¬ nI (mk (allF c P cl) (2 * c)) = 0 := by rw [nI_z (by omega)]; exact h0
    -- the first ask is taken by both
    have hg0 := lfN_le (c := c) (P := P) (F := allF c P cl) (j := 0)
    have first : ∀ s : Int32 × Int32, nI (lfN c P (allF c P cl) 0) < s.1 → asF (lfN c P (allF c P cl)) 50 0 s = asF (lfN c P (allF c P cl)) 49 1 (nI (lfN c P (allF c P cl) 0), 0) := by
      intro s hs
      show asF (lfN c P (allF c P cl)) 49 (0 + 1) (if 0 % 10 ≤ hiN (0 / 10) then (if s.1 ≤ nI (lfN c P (allF c P cl) 0) then s else (nI (lfN c P (allF c P cl) 0), nI 0)) else s) = _
      rw [if_pos (by decide), if_neg (Int32.not_le.mpr hs), nI_0]
    have fC := first (nI (2 * c + 1), 0) (nI_lt (by omega) (by omega))
    have fM := first (1000000, -1) (by rw [show (1000000 : Int32) = nI 1000000 from by decide +kernel]; exact nI_lt (by omega) (by decide))
    have hC := c_asOut (F := allF c P cl) (k := J_X11_asks_x111_3) m.1 hB.1 h6 hB.2.2.2.1 5 0 FU (nI (2 * c + 1), 0) rfl (by unfold FU; omega)
    rw [Nat.mul_zero, show 10 * 5 = 50 from rfl, fC, nI_0] at hC
    generalize asF (lfN c P (allF c P cl)) 49 1 (nI (lfN c P (allF c P cl) 0), 0) = r at hC fM fC
    obtain ⟨w2, t1, t2, t3⟩ := d_tell1 w r.1.toInt64
    obtain ⟨k1, k2⟩ := CR_q m (qC_hi t3 (by decide) (by decide) (by decide)) t2
    refine ⟨r.2, [r.1.toInt64], by simp, ⟨w2, ?_, k1, k2⟩, fun u n => ?_⟩
    · unfold D_X11_asks D_X5_pits
      rw [hfc, bc_eq, if_neg hz, isAt_c m.1, nI_2', pk_mul, bc_eq, bd_eq, nI_1]
      refine hC.trans ?_
      unfold J_X11_asks_x111_3
      rw [t1, bv_eq]
    · obtain ⟨n', on'⟩ := MR_7 n
      have hMl := m_asks (F := allF c P cl) (k := J_X12_asks_x146_5) (u := wI u 119 7 0) n'.2.2.1.1 n'.1 hB.1 h6 hB.2.2.2.1 50 0 FU (1000000, -1) rfl (by unfold FU; omega)
      rw [fM, nI_0] at hMl
      obtain ⟨u2, g2, r2, s2⟩ := d_tellM (row0M (wI u 119 7 0)) (by decide) r.1.toInt64
      obtain ⟨k3, k4⟩ := MR_q n' (qM_tr (qM_f (k := 6) (v := 0) (by decide)) (qM_tell s2)) r2
      refine ⟨u2, ?_, k3, onM_tr on' k4⟩
      unfold D_X12_asks
      rw [bd_eq, m_fitting n'.2.2.1.1 n'.1 hB.1 h6 hB.2.2.2.1 n'.2.2.2.2.2.2.2.1 hl, bc_eq, if_neg hz]
      refine hMl.trans ?_
      unfold J_X12_asks_x146_5
      rw [bd_eq, g2, bv_eq]
