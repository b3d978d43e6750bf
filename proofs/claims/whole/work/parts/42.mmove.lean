/-! the reference makes a MOVE -/
/-- a board's row of the reference: its columns, LAWS, whose turn -/
def okB (c L m : Nat) (P : Nat → Nat) : Prop := 2 ≤ c ∧ c ≤ 6 ∧ L < 64 ∧ m ≤ 1 ∧ P 14 = m ∧ tot P < 400000
theorem d_in {v a b : Nat} {w : Wd} (hv : v < 2 ^ 31) (ha : a < 2 ^ 31) (hb : b < 2 ^ 31) : D_X12_in (nI v) (nI a) (nI b) w = some (if a ≤ v ∧ v ≤ b then 1 else 0, w) := by
  unfold D_X12_in
  simp only [nI_ltI hv ha, nI_ltI hb hv]
  by_cases h1 : v < a
  · rw [if_pos h1, if_neg (by omega)]
  · rw [if_neg h1]
    by_cases h2 : b < v
    · rw [if_pos h2, if_neg (by omega)]
    · rw [if_neg h2, if_pos (by omega)]
theorem d_isOfM {w : Wd} {c i m : Nat} (hc : w.1 119 1 = nI c) (h2 : 2 ≤ c) (h6 : c ≤ 6) (hi : i < 100) (hm : m ≤ 1) : D_X12_isOf (nI i) (nI m) w = some (if i / c = m then 1 else 0, w) := by
  unfold D_X12_isOf
  have hd : i / c ≤ i := Nat.div_le_self _ _
  rw [hc, if_pos (by rw [nI_z (by omega)]; omega), pk_div (by omega) (by omega) (by omega)]
  simp only [nI_eq (show i / c < 2 ^ 31 by omega) (show m < 2 ^ 31 by omega)]
  split <;> rfl
section MM
variable {w : Wd} {a c L m : Nat} {g : Nat → Int32}
theorem d_takeM (ha : a ≠ 119) (hla : ln a = 16) {i : Nat} {P : Nat → Nat} (hm : m ≤ 1) (hP : P 14 = m) (hi : i < 12) : D_X12_take a (nI i) (W2 w a (eP P) g) = some (W2 w a (eP (takeS m P i)) g) := by
  unfold D_X12_take
  simp only [hla, W2_a ha, W2_wa ha, bd_eq, show (14 : Int32).toNatClampNeg = 14 from by decide, eP_at, hP, n12, nI_add, nI_clamp (show 12 + m < 2 ^ 31 by omega), nI_clamp (show i < 2 ^ 31 by omega), ib_nI (show i < 16 by omega) (by omega), ib_nI (show 12 + m < 16 by omega) (by omega), if_true, upd_eP]
  rw [if_pos (by decide), nI_0', upd_eP]
  rfl
theorem loop_goMove {k : Wd → Option Wd} {x6 x7 : Int32} {g0 : Nat → Int32} (ha : a ≠ 119) (hla : ln a = 16) (hc : g0 1 = nI c) (hl : g0 2 = nI L) (h2 : 2 ≤ c) (h6 : c ≤ 6) (hL : L < 64) (hm : m ≤ 1) : ∀ (f n q l : Nat) (P : Nat → Nat), okPl c q → P 14 = m → tot P < 400000 → l ≤ 50 → 50 - l ≤ f → f < n →
    L_X12_goMove_31 a x6 x7 k n (W2 w a (eP P) (upd (upd g0 21 (nI q)) 20 (nI l))) = k (W2 w a (eP (goS c L m f q P l).2.1) (upd (upd g0 21 (nI (goS c L m f q P l).1)) 20 (nI (goS c L m f q P l).2.2))) := by
  intro f
  induction f with
  | zero =>
    intro n q l P hq hP ht hl50 hf hn
    obtain ⟨n, rfl⟩ : ∃ n', n = n' + 1 := ⟨n - 1, by omega⟩
    have hl' : l = 50 := by omega
    subst hl'
    have hq100 : q < 100 := by rcases hq with h | h <;> omega
    unfold L_X12_goMove_31
    simp only [W2_M, W2_a ha, upd_self, upd_ne (show (21 : Nat) ≠ 20 by decide), upd_ne (show (2 : Nat) ≠ 20 by decide), upd_ne (show (2 : Nat) ≠ 21 by decide), hl, bit_1 L hL, nI_is n50 (show q < 2 ^ 31 by omega) (show 50 < 2 ^ 31 by omega)]
    show _ = k _
    by_cases h1 : L.testBit 1 = false
    · rw [if_pos h1]; rfl
    · rw [if_neg h1]
      by_cases h50 : q = 50
      · rw [if_pos h50]; rfl
      · have hq12 : q < 12 := by rcases hq with h | h <;> omega
        rw [if_neg h50, hla, if_pos (ib_nI (by omega) (by omega))]
        split
        · rfl
        · rw [if_pos (by rw [n50]; exact nI_le (Nat.le_refl _) (by omega))]; rfl
  | succ f ih =>
    intro n q l P hq hP ht hl50 hf hn
    obtain ⟨n, rfl⟩ : ∃ n', n = n' + 1 := ⟨n - 1, by omega⟩
    have hq100 : q < 100 := by rcases hq with h | h <;> omega
    unfold L_X12_goMove_31 goS
    simp only [W2_M, W2_a ha, upd_self, upd_ne (show (21 : Nat) ≠ 20 by decide), upd_ne (show (2 : Nat) ≠ 20 by decide), upd_ne (show (2 : Nat) ≠ 21 by decide), hl, bit_1 L hL, nI_is n50 (show q < 2 ^ 31 by omega) (show 50 < 2 ^ 31 by omega), nI_clamp (show q < 2 ^ 31 by omega), eP_at]
    by_cases h1 : L.testBit 1 = false
    · rw [if_pos h1, if_neg (fun z => by rw [h1] at z; exact absurd z.1 (by decide))]
    · rw [if_neg h1]
      have h1' : L.testBit 1 = true := by
        cases hh : L.testBit 1 with
        | true => rfl
        | false => exact absurd hh h1
      by_cases h50 : q = 50
      · rw [if_pos h50, if_neg (fun z => z.2.1 h50)]
      · have hq2 : q < 2 * c := by rcases hq with h | h; exact h; exact absurd h h50
        have hPq : P q ≤ tot P := le_tot (by omega)
        rw [if_neg h50, hla, if_pos (ib_nI (by omega) (by omega))]
        rw [nI_1']
        simp only [nI_leI (show P q < 2 ^ 31 by omega) (show 1 < 2 ^ 31 by omega)]
        by_cases h3 : P q ≤ 1
        · rw [if_pos h3, if_neg (fun z => by omega)]
        · rw [if_neg h3, n50]
          simp only [nI_leI (show 50 < 2 ^ 31 by omega) (show l < 2 ^ 31 by omega)]
          by_cases h4 : 50 ≤ l
          · rw [if_pos h4, if_neg (fun z => by omega)]
          · rw [if_neg h4, if_pos ⟨h1', h50, by omega, by omega⟩]
            have hg := d_goLap (w := w) (a := a) (g0 := upd (upd g0 21 (nI q)) 20 (nI l)) ha hla (by rw [upd_ne (by decide), upd_ne (by decide), hc]) (by rw [upd_ne (by decide), upd_ne (by decide), hl]) h2 h6 hL hm hq2 hP (by omega) upd_self
            obtain ⟨j1, j2, j3⟩ := lapS_inv (L := L) (P := P) h2 h6 hm hq2
            have e : ∀ q' l' : Nat, upd (upd (upd (upd g0 21 (nI q)) 20 (nI l)) 21 (nI q')) 20 (nI l') = upd (upd g0 21 (nI q')) 20 (nI l') := by
              intro q' l'
              funext j
              by_cases a1 : j = 20 <;> by_cases a2 : j = 21 <;> simp [upd, a1, a2]
            rw [hg, bv_eq, e]
            exact ih n _ (l + 1) _ j1 (by rw [j3 14 (Nat.le_refl _), hP]) (by rw [j2]; exact ht) (by omega) (by omega) (by omega)
theorem loop_capT {k : Wd → Option Wd} {x30 x31 : Int32} (ha : a ≠ 119) (hla : ln a = 16) (hc : g 1 = nI c) (h2 : 2 ≤ c) (h6 : c ≤ 6) (hm : m ≤ 1) : ∀ (i n : Nat) (P : Nat → Nat) (x : Int32), i ≤ 12 → P 14 = m → tot P < 400000 → i < n → x = nI i - 1 →
    L_X12_goMove_194 a (nI m) x30 x31 k n x (W2 w a (eP P) g) = k (W2 w a (eP (capT c m i P)) g) := by
  intro i
  induction i with
  | zero =>
    intro n P x hi hP ht hn hx
    obtain ⟨n, rfl⟩ : ∃ n', n = n' + 1 := ⟨n - 1, by omega⟩
    subst hx
    unfold L_X12_goMove_194
    rw [if_pos (by decide)]
    rfl
  | succ i ih =>
    intro n P x hi hP ht hn hx
    obtain ⟨n, rfl⟩ : ∃ n', n = n' + 1 := ⟨n - 1, by omega⟩
    have hx' : x = nI i := by rw [hx]; exact nI_pred i
    subst hx'
    have hPi : P i ≤ tot P := le_tot (by omega)
    unfold L_X12_goMove_194 capT
    rw [if_neg (nI_pos (by omega)), d_isOfM (by rw [W2_M]; exact hc) h2 h6 (by omega) hm, bc_eq]
    by_cases h1 : i / c = m
    · rw [if_pos h1, if_neg (by decide), if_neg (fun z => z.1 h1)]
    · rw [if_neg h1, if_pos rfl, hla, if_pos (ib_nI (by omega) (by omega)), W2_a ha, nI_clamp (by omega), eP_at, nI_2', show (3 : Int32) = nI 3 from by decide +kernel, d_in (by omega) (by omega) (by omega), bc_eq]
      by_cases h3 : 2 ≤ P i ∧ P i ≤ 3
      · rw [if_pos h3, if_neg (by decide), if_pos ⟨h1, h3⟩, d_takeM ha hla hm hP (by omega), bv_eq, bd_eq]
        exact ih n _ _ (by omega) (by rw [takeS_hi hm (by omega) (by omega), hP]) (by rw [takeS_tot hm (by omega)]; exact ht) (by omega) (Int32.sub_eq_add_neg _ _).symm
      · rw [if_neg h3, if_pos rfl, if_neg (fun z => h3 z.2)]
theorem j_end {x13 s0 : Int32} {q : Nat} {P : Nat → Nat} (ha : a ≠ 119) (hla : ln a = 16) (hl : g 2 = nI L) (hL : L < 64) (hm : m ≤ 1) (hx : x13 = if q = 50 then 1 else 0) :
    J_X12_goMove_j234_4 (nI m) a s0 x13 (W2 w a (eP P) g) = some (W2 w a (eP (endS L m q P)) (upd g 19 (nI (P (12 + m)) - s0))) := by
  have hmade : ∀ (Q : Nat → Nat) (g' : Nat → Int32), J_X12_goMove_j269_2 a (W2 w a (eP Q) g') = some (W2 w a (eP (uN Q 15 (Q 15 + 1))) g') := by
    intro Q g'
    unfold J_X12_goMove_j269_2
    rw [hla, if_pos (by decide), if_pos (by decide), bd_eq, W2_a ha, W2_wa ha, show (15 : Int32).toNatClampNeg = 15 from by decide, eP_at, nI_1, upd_eP]
  have hturn : ∀ (Q : Nat → Nat) (g' : Nat → Int32), J_X12_goMove_j262_1 a (nI m) (J_X12_goMove_j269_2 a) (W2 w a (eP Q) g') = some (W2 w a (eP (uN (uN Q 14 (1 - m)) 15 (Q 15 + 1))) g') := by
    intro Q g'
    unfold J_X12_goMove_j262_1
    rw [hla, if_pos (by decide), bd_eq, W2_wa ha, show (14 : Int32).toNatClampNeg = 14 from by decide, nI_1', pk_sub hm, upd_eP, hmade, uN_ne (show (15 : Nat) ≠ 14 by decide)]
  unfold J_X12_goMove_j234_4
  simp only [hla, n12, nI_add, bd_eq]
  rw [if_pos (ib_nI (by omega) (by omega)), W2_a ha, nI_clamp (by omega), eP_at, W2_wM, hturn, hmade, W2_M, upd_ne (by decide), hl]
  simp only [bit_4 L hL]
  unfold endS
  subst hx
  by_cases h50 : q = 50
  · rw [if_pos h50, if_neg (by decide)]
    cases h4 : L.testBit 4 with
    | false => simp
    | true => simp [h50]
  · rw [if_neg h50, if_pos rfl, if_neg (fun z => h50 z.1)]
theorem j_T {x13 s0 : Int32} {q : Nat} {P : Nat → Nat} (ha : a ≠ 119) (hla : ln a = 16) (hc : g 1 = nI c) (hl : g 2 = nI L) (hq : g 21 = nI q) (h2 : 2 ≤ c) (h6 : c ≤ 6) (hL : L < 64) (hm : m ≤ 1) (hoq : okPl c q) (hP : P 14 = m) (ht : tot P < 400000) (hx : x13 = if q = 50 then 1 else 0) :
    J_X12_goMove_j173_5 (nI m) a s0 x13 (W2 w a (eP P) g) = some (W2 w a (eP (endS L m q (capTS c L m q P))) (upd g 19 (nI (capTS c L m q P (12 + m)) - s0))) := by
  unfold J_X12_goMove_j173_5
  simp only [bd_eq]
  rw [W2_M, hl, hq]
  simp only [bit_5 L hL]
  unfold capTS
  by_cases h50 : q = 50
  · rw [hx, if_pos h50, if_neg (by decide), if_neg (fun z => z.1 h50)]
    exact j_end ha hla hl hL hm (by rw [if_pos h50])
  · rw [hx, if_neg h50, if_pos rfl]
    have hq2 : q < 2 * c := by rcases hoq with h | h; exact h; exact absurd h h50
    cases h5 : L.testBit 5 with
    | false =>
      rw [if_pos rfl, if_neg (fun z => by cases z.2)]
      exact j_end ha hla hl hL hm (by rw [if_neg h50])
    | true =>
      rw [if_neg (by decide), if_pos ⟨h50, rfl⟩, loop_capT ha hla hc h2 h6 hm (q + 1) FU P (nI q) (by omega) hP ht (by unfold FU; omega) (by rw [nI_pred])]
      unfold J_X12_goMove_x234_3
      exact j_end ha hla hl hL hm (by rw [if_neg h50])
theorem j_C {x13 s0 : Int32} {q : Nat} {P : Nat → Nat} (ha : a ≠ 119) (hla : ln a = 16) (hc : g 1 = nI c) (hl : g 2 = nI L) (hq : g 21 = nI q) (h2 : 2 ≤ c) (h6 : c ≤ 6) (hL : L < 64) (hm : m ≤ 1) (hoq : okPl c q) (hP : P 14 = m) (ht : tot P < 400000) (hx : x13 = if q = 50 then 1 else 0) :
    J_X12_goMove_j94_6 (nI m) a s0 x13 (W2 w a (eP P) g) = some (W2 w a (eP (endS L m q (capTS c L m q (capCS c L m q P)))) (upd g 19 (nI (capTS c L m q (capCS c L m q P) (12 + m)) - s0))) := by
  have hrest : ∀ Q : Nat → Nat, Q 14 = m → tot Q < 400000 → J_X12_goMove_j173_5 (nI m) a s0 x13 (W2 w a (eP Q) g) = some (W2 w a (eP (endS L m q (capTS c L m q Q))) (upd g 19 (nI (capTS c L m q Q (12 + m)) - s0))) := fun Q h3 h4 => j_T ha hla hc hl hq h2 h6 hL hm hoq h3 h4 hx
  unfold J_X12_goMove_j94_6
  simp only [bd_eq]
  rw [W2_M, hl, hq]
  simp only [bit_2 L hL]
  unfold capCS
  by_cases h50 : q = 50
  · rw [hrest P hP ht, hx, if_pos h50, if_neg (by decide), if_neg (fun z => z.1 h50)]
  · have hq2 : q < 2 * c := by rcases hoq with h | h; exact h; exact absurd h h50
    have hPq : P q ≤ tot P := le_tot (by omega)
    have hPo : P (2 * c - 1 - q) ≤ tot P := le_tot (by omega)
    rw [show (if q = 50 then (1 : Int32) else 0) = 0 from if_neg h50] at hx
    rw [hx] at hrest ⊢
    rw [if_pos rfl]
    cases h5 : L.testBit 2 with
    | false =>
      rw [if_pos rfl, if_neg (fun z => by cases z.2.1)]
      exact hrest P hP ht
    | true =>
      rw [if_neg (by decide), d_isOfM (by rw [W2_M]; exact hc) h2 h6 (by omega) hm, bc_eq]
      by_cases h6' : q / c = m
      · have hpit : ∀ (Q : Nat → Nat), D_X12_pits (W2 w a (eP Q) g) = some (nI (2 * c), W2 w a (eP Q) g) := fun Q => d_pits12 (by rw [W2_M]; exact hc)
        rw [if_pos h6', if_neg (by decide), W2_M, hq, hla, if_pos (ib_nI (by omega) (by omega)), W2_a ha, nI_clamp (by omega), eP_at, nI_1']
        simp only [nI_eq (show P q < 2 ^ 31 by omega) (show 1 < 2 ^ 31 by omega)]
        by_cases h7 : P q = 1
        · rw [if_pos h7, hpit, bc_eq, pk_sub (by omega), W2_M, hq, pk_sub (by omega), if_pos (ib_nI (by omega) (by omega)), W2_a ha, nI_clamp (by omega), eP_at]
          simp only [nI_le0 (show P (2 * c - 1 - q) < 2 ^ 31 by omega)]
          by_cases h8 : P (2 * c - 1 - q) = 0
          · rw [if_pos h8, if_neg (fun z => z.2.2.2.2 h8)]
            exact hrest P hP ht
          · rw [if_neg h8, if_pos ⟨h50, (by first | rfl | trivial), h6', h7, h8⟩, d_takeM ha hla hm hP (by omega), bv_eq, hpit, bc_eq, pk_sub (by omega), W2_M, hq, pk_sub (by omega), d_takeM ha hla hm (by rw [takeS_hi hm (by omega) (by omega), hP]) (by omega), bv_eq]
            exact hrest _ (by rw [takeS_hi hm (by omega) (by omega), takeS_hi hm (by omega) (by omega), hP]) (by rw [takeS_tot hm (by omega), takeS_tot hm (by omega)]; exact ht)
        · rw [if_neg h7, if_neg (fun z => h7 z.2.2.2.1)]
          exact hrest P hP ht
      · rw [if_neg h6', if_pos rfl, if_neg (fun z => h6' z.2.2.1)]
        exact hrest P hP ht
/-- the reference's MOVE by PIT p, whole -/
theorem d_goMove {p : Nat} {P : Nat → Nat} (ha : a ≠ 119) (hla : ln a = 16) (hc : g 1 = nI c) (hl : g 2 = nI L) (hB : okB c L m P) (hp : p < c) :
    D_X12_goMove a (nI p) (W2 w a (eP P) g) = some (W2 w a (eP (mvP c L m p P)) (upd (upd (upd g 21 (nI (mv1 c L m p P).1)) 20 (nI (mv1 c L m p P).2.2)) 19 (nI (mvB c L m p P (12 + m)) - nI (P (12 + m))))) := by
  obtain ⟨h2, h6, hL, hm, hP, ht⟩ := hB
  have hfr : m * c + p < 2 * c := by rcases (by omega : m = 0 ∨ m = 1) with h | h <;> subst h <;> omega
  have hPf : P (m * c + p) ≤ tot P := le_tot (by omega)
  unfold D_X12_goMove
  simp only [hla, bd_eq]
  rw [if_pos (by decide), W2_a ha, show (14 : Int32).toNatClampNeg = 14 from by decide, eP_at, hP, n12, nI_add, if_pos (ib_nI (by omega) (by omega)), nI_clamp (by omega), eP_at, W2_wM, W2_M, upd_ne (by decide), hc, pk_mul, nI_add, show c * m + p = m * c + p by rw [Nat.mul_comm]]
  have hg := d_goLap (w := w) (a := a) (g0 := upd g 20 0) (l := 0) ha hla (by rw [upd_ne (by decide), hc]) (by rw [upd_ne (by decide), hl]) h2 h6 hL hm hfr hP (by omega) (by rw [upd_self, nI_0'])
  have e1 : ∀ q' l' : Nat, upd (upd (upd g 20 0) 21 (nI q')) 20 (nI l') = upd (upd g 21 (nI q')) 20 (nI l') := by
    intro q' l'
    funext j
    by_cases a1 : j = 20 <;> by_cases a2 : j = 21 <;> simp [upd, a1, a2]
  obtain ⟨j1, j2, j3⟩ := lapS_inv (L := L) (P := P) h2 h6 hm hfr
  rw [hg, bv_eq, e1, loop_goMove ha hla hc hl h2 h6 hL hm 50 FU _ 1 _ j1 (by rw [j3 14 (Nat.le_refl _), hP]) (by rw [j2]; exact ht) (by omega) (by omega) (by unfold FU; omega)]
  obtain ⟨i1, i2, i3, i4⟩ := goS_inv (L := L) h2 h6 hm 50 _ (lapS c L m (m * c + p) P).2 1 j1 (by omega)
  show J_X12_goMove_x80_7 (nI m) a (nI (P (12 + m))) (W2 w a (eP (mv1 c L m p P).2.1) (upd (upd g 21 (nI (mv1 c L m p P).1)) 20 (nI (mv1 c L m p P).2.2))) = _
  have hoq : okPl c (mv1 c L m p P).1 := i1
  have hq14 : (mv1 c L m p P).2.1 14 = m := by
    show (goS c L m 50 _ _ 1).2.1 14 = m
    rw [i3 14 (Nat.le_refl _), j3 14 (Nat.le_refl _), hP]
  have hqt : tot (mv1 c L m p P).2.1 < 400000 := by
    show tot (goS c L m 50 _ _ 1).2.1 < 400000
    rw [i2, j2]
    exact ht
  have hq100 : (mv1 c L m p P).1 < 100 := by rcases hoq with h | h <;> omega
  unfold J_X12_goMove_x80_7
  simp only [bd_eq]
  rw [W2_M, upd_ne (by decide), upd_self]
  simp only [nI_is n50 (show (mv1 c L m p P).1 < 2 ^ 31 by omega) (show 50 < 2 ^ 31 by omega)]
  have hC := fun x13 hx => j_C (w := w) (a := a) (g := upd (upd g 21 (nI (mv1 c L m p P).1)) 20 (nI (mv1 c L m p P).2.2)) (x13 := x13) (s0 := nI (P (12 + m))) (P := (mv1 c L m p P).2.1) (q := (mv1 c L m p P).1) (L := L) (c := c) (m := m) ha hla (by rw [upd_ne (by decide), upd_ne (by decide), hc]) (by rw [upd_ne (by decide), upd_ne (by decide), hl]) (by rw [upd_ne (by decide), upd_self]) h2 h6 hL hm hoq hq14 hqt hx
  by_cases h50 : (mv1 c L m p P).1 = 50
  · rw [if_pos h50, hC 1 (by rw [if_pos h50])]
    rfl
  · rw [if_neg h50, hC 0 (by rw [if_neg h50])]
    rfl
end MM
