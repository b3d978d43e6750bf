/-! the class: captures, the end of a MOVE, the whole MOVE -/
def emS (S : Nat → Nat) (b : Nat) : Nat → Nat
  | 0 => 0
  | n + 1 => emS S b n + (if S (b + n) = 0 then 1 else 0)
theorem isAt_s {w : Wd} {q c : Nat} {P : Nat → Nat} (h : isAt w q c P) : ∀ i, i < 12 → w.1 (q + 1) i = nI (P i) := fun i hi => by rw [h.2.1, sP_at hi]
theorem isAt_c {w : Wd} {q c : Nat} {P : Nat → Nat} (h : isAt w q c P) : w.1 q 2 = nI c := by rw [h.1, oP_2]
theorem isAt_m {w : Wd} {q c : Nat} {P : Nat → Nat} (h : isAt w q c P) : w.1 q 3 = nI (P 14) := by rw [h.1, oP_3]
theorem loop_empty {q b c : Nat} {S : Nat → Nat} {k : Int32 → Wd → Option (Int32 × Wd)} {w : Wd} (hc : w.1 q 2 = nI c) (hs : ∀ i, i < 12 → w.1 (q + 1) i = nI (S i)) (hS : ∀ i, i < 12 → S i < 2 ^ 31) (hb : b + c ≤ 12) : ∀ (m p n : Nat), p + m = c → m < n → L_X5_emptyPitsOf_12 q (nI b) k n (nI (emS S b p)) (nI p) w = k (nI (emS S b c)) w := by
  intro m
  induction m with
  | zero =>
    intro p n hp hn
    obtain ⟨n, rfl⟩ : ∃ n', n = n' + 1 := ⟨n - 1, by omega⟩
    have : p = c := by omega
    subst this
    unfold L_X5_emptyPitsOf_12
    rw [hc, if_pos (nI_le (Nat.le_refl _) (by omega))]
  | succ m ih =>
    intro p n hp hn
    obtain ⟨n, rfl⟩ : ∃ n', n = n' + 1 := ⟨n - 1, by omega⟩
    unfold L_X5_emptyPitsOf_12 J_X5_emptyPitsOf_j36_1
    rw [hc, if_neg (nI_ge (by omega) (by omega)), nI_add, if_pos (ib_nI (by omega) (by omega)), nI_clamp (by omega), hs _ (by omega)]
    simp only [bd_eq, nI_1, nI_z (hS (b + p) (by omega))]
    have e : emS S b (p + 1) = emS S b p + (if S (b + p) = 0 then 1 else 0) := rfl
    by_cases h : S (b + p) = 0
    · rw [if_pos h]
      rw [if_pos h] at e
      rw [← e]
      exact ih (p + 1) n (by omega) (by omega)
    · rw [if_neg h]
      rw [if_neg h] at e
      have e' : emS S b p = emS S b (p + 1) := e.symm
      rw [e']
      exact ih (p + 1) n (by omega) (by omega)
theorem mc_le {m c : Nat} (h6 : c ≤ 6) (hm : m ≤ 1) : m * c + c ≤ 12 := by
  rcases (by omega : m = 0 ∨ m = 1) with h | h <;> subst h <;> omega
theorem d_emptyPitsOf {q c m : Nat} {S : Nat → Nat} {w : Wd} (hc : w.1 q 2 = nI c) (hs : ∀ i, i < 12 → w.1 (q + 1) i = nI (S i)) (hS : ∀ i, i < 12 → S i < 2 ^ 31) (h6 : c ≤ 6) (hm : m ≤ 1) : D_X5_emptyPitsOf q (nI m) w = some (nI (emS S (m * c) c), w) := by
  unfold D_X5_emptyPitsOf
  rw [bd_eq, hc, pk_mul]
  have e := loop_empty (k := J_X5_emptyPitsOf_x42_2) hc hs hS (mc_le h6 hm) c 0 FU (by omega) (by unfold FU; omega)
  rw [show emS S (m * c) 0 = 0 from rfl, nI_0] at e
  exact e
theorem d_canMove {w : Wd} {q c : Nat} {P : Nat → Nat} (h : isAt w q c P) (h6 : c ≤ 6) (hm : P 14 ≤ 1) (ht : tot P < 400000) {p : Nat} (hp : p < c) : D_X5_canMove q (nI p) w = some (if P (P 14 * c + p) = 0 then 0 else 1, w) := by
  have hb := mc_le h6 hm
  have hPi : P (P 14 * c + p) ≤ tot P := le_tot (by omega)
  unfold D_X5_canMove
  rw [if_neg (nI_pos (by omega)), isAt_c h, if_neg (nI_ge (by omega) (by omega)), isAt_m h, pk_mul, nI_add, if_pos (ib_nI (by omega) (by omega)), nI_clamp (by omega), isAt_s h _ (by omega)]
  simp only [nI_le0 (show P (P 14 * c + p) < 2 ^ 31 by omega)]
  by_cases h : P (P 14 * c + p) = 0
  · rw [if_pos h, if_pos h]
  · rw [if_neg h, if_neg h]
theorem d_canMove_no {w : Wd} {q c : Nat} {x : Int32} (hc : w.1 q 2 = nI c) (hx : x < 0 ∨ nI c ≤ x) : D_X5_canMove q x w = some (0, w) := by
  unfold D_X5_canMove
  rw [hc]
  rcases hx with h | h
  · rw [if_pos h]
  · by_cases h1 : x < 0
    · rw [if_pos h1]
    · rw [if_neg h1, if_pos h]
section CK
variable {w : Wd} {v q c L m : Nat} {f : Nat → Int32}
theorem VW_tt (hv : q + 2 < v) {P : Nat → Nat} (hm : m ≤ 1) {x : Nat} : wI (VW w v q c P f) (q + 2) m (nI x) = VW w v q c (uN P (12 + m) x) f := VW_t hv (by omega)
theorem d_capOpp (hv : q + 2 < v) (hs1 : f 1 = nI m) (h2 : 2 ≤ c) (h6 : c ≤ 6) (hm : m ≤ 1) {a : Nat} (hf : f 6 = nI a) (ha : okPl c a) {P : Nat → Nat} (ht : tot P < 400000) :
    D_X1_captureOpposite v q (VW w v q c P f) = some (VW w v q c (if a ≠ 50 ∧ a / c = m ∧ P a = 1 ∧ P (2 * c - 1 - a) ≠ 0 then takeS m (takeS m P a) (2 * c - 1 - a) else P) f) := by
  have ha100 : a < 100 := by rcases ha with h | h <;> omega
  unfold D_X1_captureOpposite
  rw [VW_v, hf, hs1, d_isOf (isAt_c (VW_at hv)) h2 h6 ha100 hm, bc_eq]
  by_cases h1 : a / c = m
  · have ha50 : a ≠ 50 := by
      intro h
      subst h
      have : 50 / c ≥ 8 := by
        rw [ge_iff_le, Nat.le_div_iff_mul_le (by omega)]
        omega
      omega
    have ha2 : a < 2 * c := by rcases ha with h | h; exact h; exact absurd h ha50
    have hPa : P a ≤ tot P := le_tot (by omega)
    have hPo : P (2 * c - 1 - a) ≤ tot P := le_tot (by omega)
    have hia : ib (nI a) 12 = true := ib_nI (by omega) (by omega)
    have hio : ib (nI (2 * c - 1 - a)) 12 = true := ib_nI (by omega) (by omega)
    have him : ib (nI m) 2 = true := ib_nI (by omega) (by omega)
    have hopp : D_X5_opposite q (nI a) (VW w v q c P f) = some (nI (2 * c - 1 - a), VW w v q c P f) := by
      unfold D_X5_opposite
      rw [VW_q hv, oP_2, nI_2', pk_mul, nI_1', pk_sub (by omega), pk_sub (by omega)]
    rw [if_pos h1, if_neg (by decide), VW_v, hf, if_pos hia, VW_q1 hv, nI_clamp (by omega), sP_at (by omega)]
    simp only [nI_is nI_1' (show P a < 2 ^ 31 by omega) (show 1 < 2 ^ 31 by omega)]
    by_cases h7 : P a = 1
    · rw [if_pos h7, hopp, bc_eq, if_pos hio, VW_q1 hv, nI_clamp (by omega), sP_at (by omega)]
      simp only [nI_le0 (show P (2 * c - 1 - a) < 2 ^ 31 by omega)]
      by_cases h8 : P (2 * c - 1 - a) = 0
      · rw [if_pos h8, if_neg (fun z => z.2.2.2 h8)]
      · rw [if_neg h8, VW_v, hs1, if_pos him, if_pos hio, if_pos him, bd_eq, VW_q2 hv, nI_clamp (by omega), tP_at (by omega), nI_1', nI_add, nI_add, VW_tt hv hm, VW_v, hf, if_pos hia, bd_eq, nI_clamp (by omega), VW_s0 hv (by omega), if_pos hio, bd_eq, VW_s0 hv (by omega), if_pos ⟨ha50, h1, h7, h8⟩]
        congr 1
        congr 1
        funext j
        unfold takeS uN
        have hne : 2 * c - 1 - a ≠ a := by omega
        by_cases e1 : j = 2 * c - 1 - a
        · simp [e1]
        · by_cases e2 : j = a
          · have g4 : ¬ (a = 12 + m) := by omega
            subst e2
            simp [e1, g4]
          · by_cases e3 : j = 12 + m
            · subst e3
              have g1 : ¬ (12 + m = a) := by omega
              have g2 : ¬ (12 + m = 2 * c - 1 - a) := by omega
              have g3 : ¬ (2 * c - 1 - a = 12 + m) := by omega
              have g4 : ¬ (a = 12 + m) := by omega
              simp [g1, g2, g3, g4, hne, h7]
              omega
            · simp [e1, e2, e3]
    · rw [if_neg h7, if_neg (fun z => h7 z.2.2.1)]
  · rw [if_neg h1, if_pos rfl, if_neg (fun z => h1 z.2.1)]
theorem loop_capBack {k : Wd → Option Wd} {x7 : Int32} (hv : q + 2 < v) (hs1 : f 1 = nI m) (h2 : 2 ≤ c) (h6 : c ≤ 6) (hm : m ≤ 1) (hx7 : x7 = nI ((1 - m) * c)) : ∀ (i n : Nat) (P : Nat → Nat) (x : Int32), (1 - m) * c + i ≤ (2 - m) * c → tot P < 400000 → i < n → x = nI ((1 - m) * c + i) + (-1) →
    L_X1_captureBackwards_35 v q x7 k k n x (VW w v q c P f) = k (VW w v q c (capT c m ((1 - m) * c + i) P) f) := by
  have hm2 : (2 - m) * c ≤ 12 := by rcases (by omega : m = 0 ∨ m = 1) with h | h <;> subst h <;> omega
  intro i
  induction i with
  | zero =>
    intro n P x hi ht hn hx
    obtain ⟨n, rfl⟩ : ∃ n', n = n' + 1 := ⟨n - 1, by omega⟩
    unfold L_X1_captureBackwards_35
    have hz : capT c m ((1 - m) * c + 0) P = P := by
      rcases (by omega : m = 0 ∨ m = 1) with h | h
      · subst h
        obtain ⟨d, rfl⟩ : ∃ d, c = d + 1 := ⟨c - 1, by omega⟩
        show capT (d + 1) 0 (1 * (d + 1) + 0) P = P
        rw [show 1 * (d + 1) + 0 = d + 1 by omega]
        unfold capT
        rw [if_neg (fun z => z.1 (Nat.div_eq_of_lt (by omega)))]
      · subst h
        show capT c 1 (0 * c + 0) P = P
        rw [show 0 * c + 0 = 0 by omega]
        rfl
    rw [hz, if_pos]
    rw [hx, hx7, Nat.add_zero]
    rcases (by omega : m = 0 ∨ m = 1) with h | h
    · subst h
      obtain ⟨d, rfl⟩ : ∃ d, c = d + 1 := ⟨c - 1, by omega⟩
      show nI (1 * (d + 1)) + (-1) < nI (1 * (d + 1))
      rw [Nat.one_mul, pk_m1]
      exact nI_lt (by omega) (by omega)
    · subst h
      show nI (0 * c) + (-1) < nI (0 * c)
      rw [Nat.zero_mul]
      decide
  | succ i ih =>
    intro n P x hi ht hn hx
    obtain ⟨n, rfl⟩ : ∃ n', n = n' + 1 := ⟨n - 1, by omega⟩
    have hx' : x = nI ((1 - m) * c + i) := by rw [hx, ← Nat.add_assoc, pk_m1]
    subst hx'
    have hidx : (1 - m) * c + i < 12 := by omega
    have hPi : P ((1 - m) * c + i) ≤ tot P := le_tot (by omega)
    have hib : ib (nI ((1 - m) * c + i)) 12 = true := ib_nI hidx (by omega)
    have him : ib (nI m) 2 = true := ib_nI (by omega) (by omega)
    have hdiv : ¬ ((1 - m) * c + i) / c = m := by
      intro z
      rcases (by omega : m = 0 ∨ m = 1) with h | h
      · subst h
        have : ((1 - 0) * c + i) / c = 1 + i / c := by
          rw [show (1 - 0) * c + i = i + c * 1 by omega, Nat.add_mul_div_left _ _ (by omega)]
          omega
        rw [this] at z
        exact absurd z (by rw [Nat.add_comm]; exact Nat.succ_ne_zero _)
      · subst h
        have hic : i < c := by omega
        rw [show (1 - 1) * c + i = i by omega, Nat.div_eq_of_lt hic] at z
        omega
    unfold L_X1_captureBackwards_35
    rw [if_neg (by rw [hx7]; exact nI_nlt (by omega) (by omega)), if_pos hib, bd_eq, VW_q1 hv, nI_clamp (by omega), sP_at hidx]
    have hJ : J_X1_captureBackwards_j61_1 (L_X1_captureBackwards_35 v q x7 k k n) v q (nI (P ((1 - m) * c + i))) (nI ((1 - m) * c + i)) (VW w v q c P f) = k (VW w v q c (capT c m ((1 - m) * c + i) (takeS m P ((1 - m) * c + i))) f) := by
      unfold J_X1_captureBackwards_j61_1
      rw [VW_v, hs1, if_pos him, if_pos him, bd_eq, VW_q2 hv, nI_clamp (by omega), tP_at (by omega), nI_add, VW_tt hv hm, if_pos hib, bd_eq, nI_clamp (by omega), VW_s0 hv hidx, bd_eq]
      have := ih n (takeS m P ((1 - m) * c + i)) (nI ((1 - m) * c + i) + (-1)) (by omega) (by rw [takeS_tot hm hidx]; exact ht) (by omega) rfl
      exact this
    have ecap : capT c m ((1 - m) * c + (i + 1)) P = if ¬ ((1 - m) * c + i) / c = m ∧ 2 ≤ P ((1 - m) * c + i) ∧ P ((1 - m) * c + i) ≤ 3 then capT c m ((1 - m) * c + i) (takeS m P ((1 - m) * c + i)) else P := rfl
    rw [ecap]
    simp only [bd_eq]
    rw [hJ]
    simp only [nI_is nI_2' (show P ((1 - m) * c + i) < 2 ^ 31 by omega) (show 2 < 2 ^ 31 by omega), nI_is (show (3 : Int32) = nI 3 from by decide +kernel) (show P ((1 - m) * c + i) < 2 ^ 31 by omega) (show 3 < 2 ^ 31 by omega)]
    by_cases g2 : P ((1 - m) * c + i) = 2
    · rw [if_pos g2, if_pos ⟨hdiv, by omega, by omega⟩]
    · rw [if_neg g2]
      by_cases g3 : P ((1 - m) * c + i) = 3
      · rw [if_pos g3, if_pos ⟨hdiv, by omega, by omega⟩]
      · rw [if_neg g3, if_neg (fun z => by omega)]
theorem d_capBack (hv : q + 2 < v) (hs1 : f 1 = nI m) (h2 : 2 ≤ c) (h6 : c ≤ 6) (hm : m ≤ 1) {a : Nat} (hf : f 6 = nI a) (ha : okPl c a) {P : Nat → Nat} (ht : tot P < 400000) :
    D_X1_captureBackwards v q (VW w v q c P f) = some (VW w v q c (if a ≠ 50 then capT c m (a + 1) P else P) f) := by
  have ha100 : a < 100 := by rcases ha with h | h <;> omega
  unfold D_X1_captureBackwards
  rw [VW_v, hf, hs1, nI_1', pk_sub hm, d_isOf (isAt_c (VW_at hv)) h2 h6 ha100 (by omega), bc_eq]
  by_cases h1 : a / c = 1 - m
  · have ha50 : a ≠ 50 := by
      intro h
      subst h
      have : 50 / c ≥ 8 := by
        rw [ge_iff_le, Nat.le_div_iff_mul_le (by omega)]
        omega
      omega
    have hlo : (1 - m) * c ≤ a := by rw [← h1]; exact Nat.div_mul_le_self _ _
    have hhi : a < (2 - m) * c := by
      have := Nat.lt_div_mul_add (a := a) (b := c) (by omega)
      rw [h1] at this
      have e : (2 - m) * c = (1 - m) * c + c := by
        rw [show 2 - m = (1 - m) + 1 by omega, Nat.add_mul]
        omega
      omega
    rw [if_pos h1, if_neg (by decide), VW_v, hf, hs1, VW_q hv, oP_2, pk_sub hm, pk_mul, bd_eq, bd_eq, if_pos ha50]
    have e := loop_capBack (w := w) (v := v) (q := q) (c := c) (m := m) (f := f) (k := fun w19 => some w19) (x7 := nI ((1 - m) * c)) hv hs1 h2 h6 hm rfl (a + 1 - (1 - m) * c) FU P (nI a) (by omega) ht (by unfold FU; omega) (by rw [show (1 - m) * c + (a + 1 - (1 - m) * c) = a + 1 by omega, pk_m1])
    rw [show (1 - m) * c + (a + 1 - (1 - m) * c) = a + 1 by omega] at e
    exact e
  · rw [if_neg h1, if_pos rfl]
    congr 1
    by_cases h50 : a = 50
    · rw [if_neg (fun z => z h50)]
    · rw [if_pos h50]
      have ha2 : a < 2 * c := by rcases ha with h | h; exact h; exact absurd h h50
      have hdm : a / c = m := by
        have h3 : a / c < 2 := by
          rw [Nat.div_lt_iff_lt_mul (by omega)]
          omega
        have h4 : ∀ d, d < 2 → ¬ d = 1 - m → d = m := by
          intro d
          omega
        exact h4 _ h3 h1
      unfold capT
      rw [if_neg (fun z => z.1 hdm)]
end CK
/-- what a MOVE leaves in the object that made it -/
def mvF (f : Nat → Int32) (L m p lifted laps place stays em ot : Nat) (gain : Int32) : Nat → Int32
  | 0 => nI L
  | 1 => nI m
  | 2 => nI p
  | 3 => nI lifted
  | 4 => gain
  | 5 => nI laps
  | 6 => nI place
  | 7 => nI stays
  | 8 => nI em
  | 9 => nI ot
  | k + 10 => f (k + 10)
def staysS (L q : Nat) : Nat := if q = 50 ∧ L.testBit 4 = true then 1 else 0
section CE
variable {w : Wd} {v q c L m : Nat} {f : Nat → Int32}
theorem tot_lt {P : Nat → Nat} (ht : tot P < 400000) : ∀ i, i < 12 → P i < 2 ^ 31 := fun i hi => by
  have := le_tot (P := P) (i := i) (by omega)
  omega
theorem sumS_congr {P Q : Nat → Nat} {b : Nat} : ∀ n, (∀ i, i < n → P (b + i) = Q (b + i)) → sumS P b n = sumS Q b n := by
  intro n
  induction n with
  | zero => intro _; rfl
  | succ n ih =>
    intro h
    show sumS P b n + P (b + n) = sumS Q b n + Q (b + n)
    rw [ih (fun i hi => h i (by omega)), h n (by omega)]
theorem emS_congr {P Q : Nat → Nat} {b : Nat} : ∀ n, (∀ i, i < n → P (b + i) = Q (b + i)) → emS P b n = emS Q b n := by
  intro n
  induction n with
  | zero => intro _; rfl
  | succ n ih =>
    intro h
    show emS P b n + _ = emS Q b n + _
    rw [ih (fun i hi => h i (by omega)), h n (by omega)]
theorem endS_lo {L m a j : Nat} {P : Nat → Nat} (hj : j < 14) : endS L m a P j = P j := by
  unfold endS
  rw [uN_ne (by omega)]
  split
  · rfl
  · rw [uN_ne (by omega)]
theorem endS_tot {L m a : Nat} {P : Nat → Nat} : tot (endS L m a P) = tot P := by
  unfold endS
  rw [tot_uN' (by omega)]
  split
  · rfl
  · rw [tot_uN' (by omega)]
theorem d_endTurn (hv : q + 2 < v) (hl : f 0 = nI L) (hs1 : f 1 = nI m) (h2 : 2 ≤ c) (h6 : c ≤ 6) (hL : L < 64) (hm : m ≤ 1) {a : Nat} (hf : f 6 = nI a) (ha : okPl c a) {P : Nat → Nat} (hP : P 14 = m) (ht : tot P < 400000) :
    D_X1_endTurn v q (VW w v q c P f) = some (VW w v q c (endS L m a P) (upd (upd (upd f 7 (nI (staysS L a))) 8 (nI (emS P (m * c) c))) 9 (nI (sumS P ((1 - m) * c) c)))) := by
  have ha100 : a < 100 := by rcases ha with h | h <;> omega
  have fin : ∀ (Q : Nat → Nat) (g : Nat → Int32), (∀ j, j < 14 → Q j = P j) → g 1 = nI m → J_X1_endTurn_j38_1 q v (VW w v q c Q g) = some (VW w v q c (uN Q 15 (Q 15 + 1)) (upd (upd g 8 (nI (emS P (m * c) c))) 9 (nI (sumS P ((1 - m) * c) c)))) := by
    intro Q g hQ hg1
    have hmc := mc_le h6 hm
    have hmc' : (1 - m) * c + c ≤ 12 := mc_le h6 (by omega)
    have htQ : tot (uN Q 15 (Q 15 + 1)) < 400000 := by
      rw [tot_uN' (by omega)]
      have : tot Q = tot P := sumS_congr 14 (fun i hi => hQ _ (by omega))
      omega
    unfold J_X1_endTurn_j38_1
    simp only [bd_eq]
    rw [VW_q hv, oP_4, nI_1, VW_o4 hv, VW_v, hg1, d_emptyPitsOf (isAt_c (VW_at hv)) (isAt_s (VW_at hv)) (tot_lt htQ) h6 hm, bc_eq, VW_wv, VW_v, upd_ne (by decide), hg1, nI_1', pk_sub hm, d_inPitsOf (isAt_c (VW_at hv)) (isAt_s (VW_at hv)) h6 (by omega), bc_eq, VW_wv]
    have e1 : emS (uN Q 15 (Q 15 + 1)) (m * c) c = emS P (m * c) c := emS_congr c (fun i hi => by rw [uN_ne (by omega), hQ _ (by omega)])
    have e2 : sumS (uN Q 15 (Q 15 + 1)) ((1 - m) * c) c = sumS P ((1 - m) * c) c := sumS_congr c (fun i hi => by rw [uN_ne (by omega), hQ _ (by omega)])
    rw [e1, e2]
  have mid0 : J_X1_endTurn_j24_3 v q 0 (VW w v q c P f) = some (VW w v q c (uN (uN P 14 (1 - m)) 15 (P 15 + 1)) (upd (upd (upd f 7 (nI 0)) 8 (nI (emS P (m * c) c))) 9 (nI (sumS P ((1 - m) * c) c)))) := by
    unfold J_X1_endTurn_j24_3
    rw [if_pos (by rfl)]
    simp only [bd_eq]
    rw [VW_wv, VW_v, upd_self, if_pos rfl]
    unfold D_X5_pass
    rw [VW_q hv, oP_3, hP, nI_1', pk_sub hm, VW_o3 hv, bd_eq, bv_eq, fin (uN P 14 (1 - m)) _ (fun j hj => uN_ne (by omega)) (by rw [upd_ne (by decide), hs1]), uN_ne (show (15 : Nat) ≠ 14 by decide), nI_0]
  have mid1 : J_X1_endTurn_j24_3 v q 1 (VW w v q c P f) = some (VW w v q c (uN P 15 (P 15 + 1)) (upd (upd (upd f 7 (nI 1)) 8 (nI (emS P (m * c) c))) 9 (nI (sumS P ((1 - m) * c) c)))) := by
    unfold J_X1_endTurn_j24_3
    rw [if_pos (by rfl)]
    simp only [bd_eq]
    rw [VW_wv, VW_v, upd_self, if_neg (by decide), fin P _ (fun j hj => rfl) (by rw [upd_ne (by decide), hs1]), ← nI_1']
  unfold D_X1_endTurn J_X1_endTurn_j23_2
  simp only [bd_eq]
  rw [VW_v, hf, d_obeys 4 (by rw [VW_v, hl]) (bit_4 L hL), bc_eq, mid0, mid1]
  simp only [nI_is n50 (show a < 2 ^ 31 by omega) (show 50 < 2 ^ 31 by omega)]
  unfold endS staysS
  by_cases h50 : a = 50
  · rw [if_pos h50]
    cases h4 : L.testBit 4 with
    | false =>
      simp
    | true =>
      simp [h50]
  · rw [if_neg h50, if_neg (fun z => h50 z.1), if_neg (fun z => h50 z.1)]
theorem d_make {P : Nat → Nat} (hv : q + 2 < v) (hB : okB c L m P) {p : Nat} (hp : p < c) (hne : P (m * c + p) ≠ 0) :
    D_X1_make v q (nI p) (nI L) (VW w v q c P f) = some (1, VW w v q c (mvP c L m p P) (mvF f L m p (P (m * c + p)) (mv1 c L m p P).2.2 (mv1 c L m p P).1 (staysS L (mv1 c L m p P).1) (emS (mvB c L m p P) (m * c) c) (sumS (mvB c L m p P) ((1 - m) * c) c) (nI (mvB c L m p P (12 + m)) - nI (P (12 + m))))) := by
  obtain ⟨h2, h6, hL, hm, hP, ht⟩ := hB
  have hfr : m * c + p < 2 * c := by rcases (by omega : m = 0 ∨ m = 1) with h | h <;> subst h <;> omega
  have hib : ib (nI (m * c + p)) 12 = true := ib_nI (by omega) (by omega)
  have him : ib (nI m) 2 = true := ib_nI (by omega) (by omega)
  have hcm := d_canMove (VW_at (w := w) (c := c) (P := P) (f := f) hv) h6 (by omega) ht hp
  rw [hP, if_neg hne] at hcm
  unfold D_X1_make
  rw [hcm, bc_eq, if_neg (by decide)]
  simp only [bd_eq]
  rw [VW_wv, VW_q hv, oP_3, hP, VW_wv, VW_wv, VW_v, upd_ne (by decide), upd_self, VW_q hv, oP_2, upd_self, pk_mul, nI_add, VW_wv, VW_v, upd_self, if_pos hib, VW_q1 hv, nI_clamp (by omega), sP_at (by omega), VW_wv, VW_v, upd_ne (by decide), upd_ne (by decide), upd_ne (by decide), upd_self, if_pos him, VW_q2 hv, nI_clamp (by omega), tP_at (by omega), VW_wv]
  generalize hg0 : upd (upd (upd (upd (upd f 0 (nI L)) 1 (nI m)) 2 (nI p)) 6 (nI (m * c + p))) 3 (nI (P (m * c + p))) = g0
  have g00 : g0 0 = nI L := by rw [← hg0]; rfl
  have g01 : g0 1 = nI m := by rw [← hg0]; rfl
  have g06 : g0 6 = nI (m * c + p) := by rw [← hg0]; rfl
  -- the first lap
  conv => lhs; rw [show FU = 999999 + 1 from rfl]; unfold L_X1_make_81
  rw [if_neg (by decide), if_neg (by decide), VW_v, upd_ne (by decide), g06]
  have hsl := d_sowLap (w := w) (v := v) (q := q) (f := upd g0 5 0) (P := P) (fr := m * c + p) hv (by rw [upd_ne (by decide), g00]) (by rw [upd_ne (by decide), g01]) h2 h6 hL hm (by rw [upd_ne (by decide), g06]) hfr hne ht
  obtain ⟨j1, j2, j3⟩ := lapS_inv (L := L) (P := P) h2 h6 hm hfr
  have j1' : (lapS c L m (m * c + p) P).1 < 100 := by rcases j1 with z | z <;> omega
  rw [hsl, bc_eq]
  have e5 : ∀ y : Nat, (upd (upd g0 5 0) 6 (nI y)) 5 = 0 := by
    intro y
    rw [upd_ne (by decide), upd_self]
  have e : ∀ y z : Nat, upd (upd (upd g0 5 0) 6 (nI y)) 5 (nI z) = upd (upd g0 6 (nI y)) 5 (nI z) := by
    intro y z
    funext j
    by_cases a1 : j = 5 <;> by_cases a2 : j = 6 <;> simp [upd, a1, a2]
  obtain ⟨i1, i2, i3, i4⟩ := goS_inv (L := L) h2 h6 hm 50 _ (lapS c L m (m * c + p) P).2 1 j1 (by omega)
  have hoq : okPl c (mv1 c L m p P).1 := i1
  have hq14 : (mv1 c L m p P).2.1 14 = m := by
    show (goS c L m 50 _ _ 1).2.1 14 = m
    rw [i3 14 (Nat.le_refl _), j3 14 (Nat.le_refl _), hP]
  have hqt : tot (mv1 c L m p P).2.1 < 400000 := by
    show tot (goS c L m 50 _ _ 1).2.1 < 400000
    rw [i2, j2]
    exact ht
  have hcap : ∀ (g : Nat → Int32), g 0 = nI L → g 1 = nI m → g 6 = nI (mv1 c L m p P).1 → J_X1_make_x136_5 v q (nI (P (12 + m))) (VW w v q c (mv1 c L m p P).2.1 g) = some (1, VW w v q c (mvP c L m p P) (upd (upd (upd (upd g 4 (nI (mvB c L m p P (12 + m)) - nI (P (12 + m)))) 7 (nI (staysS L (mv1 c L m p P).1))) 8 (nI (emS (mvB c L m p P) (m * c) c))) 9 (nI (sumS (mvB c L m p P) ((1 - m) * c) c)))) := by
    intro g e0 e1 e6
    have hend : ∀ Q : Nat → Nat, Q 14 = m → tot Q < 400000 → J_X1_make_j163_3 v q (nI (P (12 + m))) (VW w v q c Q g) = some (1, VW w v q c (endS L m (mv1 c L m p P).1 Q) (upd (upd (upd (upd g 4 (nI (Q (12 + m)) - nI (P (12 + m)))) 7 (nI (staysS L (mv1 c L m p P).1))) 8 (nI (emS Q (m * c) c))) 9 (nI (sumS Q ((1 - m) * c) c)))) := by
      intro Q q1 q2
      unfold J_X1_make_j163_3
      rw [VW_v, e1, if_pos him, bd_eq, VW_q2 hv, nI_clamp (by omega), tP_at (by omega), VW_wv, d_endTurn hv (by rw [upd_ne (by decide), e0]) (by rw [upd_ne (by decide), e1]) h2 h6 hL hm (by rw [upd_ne (by decide), e6]) hoq q1 q2, bv_eq]
    have hTT : ∀ Q : Nat → Nat, Q 14 = m → tot Q < 400000 → J_X1_make_j149_4 v q (nI (P (12 + m))) (VW w v q c Q g) = some (1, VW w v q c (endS L m (mv1 c L m p P).1 (capTS c L m (mv1 c L m p P).1 Q)) (upd (upd (upd (upd g 4 (nI (capTS c L m (mv1 c L m p P).1 Q (12 + m)) - nI (P (12 + m)))) 7 (nI (staysS L (mv1 c L m p P).1))) 8 (nI (emS (capTS c L m (mv1 c L m p P).1 Q) (m * c) c))) 9 (nI (sumS (capTS c L m (mv1 c L m p P).1 Q) ((1 - m) * c) c)))) := by
      intro Q q1 q2
      have hinv := capTS_inv (L := L) (P := Q) h6 hm hoq
      unfold J_X1_make_j149_4
      rw [d_obeys 5 (by rw [VW_v, e0]) (bit_5 L hL), bc_eq]
      simp only [bd_eq]
      cases h5 : L.testBit 5 with
      | false =>
        have ez : capTS c L m (mv1 c L m p P).1 Q = Q := by
          unfold capTS
          rw [if_neg (fun z => by rw [h5] at z; cases z.2)]
        rw [if_pos (by decide), ez]
        exact hend Q q1 q2
      | true =>
        have ez : capTS c L m (mv1 c L m p P).1 Q = if (mv1 c L m p P).1 ≠ 50 then capT c m ((mv1 c L m p P).1 + 1) Q else Q := by
          unfold capTS
          by_cases z : (mv1 c L m p P).1 = 50
          · rw [if_neg (fun y => y.1 z), if_neg (fun y => y z)]
          · rw [if_pos ⟨z, h5⟩, if_pos z]
        rw [if_pos rfl, if_neg (by decide), d_capBack hv e1 h2 h6 hm e6 hoq q2, bv_eq, ← ez]
        exact hend _ (by rw [hinv.2 14 (Nat.le_refl _), q1]) (by rw [hinv.1]; exact q2)
    have hinv := capCS_inv (L := L) (P := (mv1 c L m p P).2.1) h2 h6 hm hoq
    unfold J_X1_make_x136_5
    rw [d_obeys 2 (by rw [VW_v, e0]) (bit_2 L hL), bc_eq]
    simp only [bd_eq]
    cases h5 : L.testBit 2 with
    | false =>
      have ez : capCS c L m (mv1 c L m p P).1 (mv1 c L m p P).2.1 = (mv1 c L m p P).2.1 := by
        unfold capCS
        rw [if_neg (fun z => by rw [h5] at z; cases z.2.1)]
      rw [if_pos (by decide)]
      have := hTT _ hq14 hqt
      unfold mvP mvB
      rw [ez]
      exact this
    | true =>
      have ez : capCS c L m (mv1 c L m p P).1 (mv1 c L m p P).2.1 = if (mv1 c L m p P).1 ≠ 50 ∧ (mv1 c L m p P).1 / c = m ∧ (mv1 c L m p P).2.1 (mv1 c L m p P).1 = 1 ∧ (mv1 c L m p P).2.1 (2 * c - 1 - (mv1 c L m p P).1) ≠ 0 then takeS m (takeS m (mv1 c L m p P).2.1 (mv1 c L m p P).1) (2 * c - 1 - (mv1 c L m p P).1) else (mv1 c L m p P).2.1 := by
        unfold capCS
        simp only [h5, true_and]
      rw [if_pos rfl, if_neg (by decide), d_capOpp hv e1 h2 h6 hm e6 hoq hqt, bv_eq, ← ez]
      exact hTT _ (by rw [hinv.2 14 (Nat.le_refl _), hq14]) (by rw [hinv.1]; exact hqt)
  have next : ∀ y : Int32, (y = 0 ↔ ¬ (L.testBit 1 = true ∧ (lapS c L m (m * c + p) P).1 ≠ 50 ∧ 1 < (lapS c L m (m * c + p) P).2 (lapS c L m (m * c + p) P).1)) → J_X1_make_j118_2 (L_X1_make_81 v q (nI (P (12 + m))) (J_X1_make_x136_5 v q (nI (P (12 + m)))) 999999) v 0 y (VW w v q c (lapS c L m (m * c + p) P).2 (upd (upd g0 5 0) 6 (nI (lapS c L m (m * c + p) P).1))) = some (1, VW w v q c (mvP c L m p P) (mvF f L m p (P (m * c + p)) (mv1 c L m p P).2.2 (mv1 c L m p P).1 (staysS L (mv1 c L m p P).1) (emS (mvB c L m p P) (m * c) c) (sumS (mvB c L m p P) ((1 - m) * c) c) (nI (mvB c L m p P (12 + m)) - nI (P (12 + m))))) := by
    intro y hy
    unfold J_X1_make_j118_2
    simp only [bd_eq]
    rw [VW_v, e5, show (0 : Int32) + 1 = nI 1 from by decide +kernel, VW_wv, e]
    rw [loop_make hv g00 g01 h2 h6 hL hm 50 999999 _ 1 _ y j1 (by rw [j3 14 (Nat.le_refl _), hP]) (by rw [j2]; exact ht) (by omega) (by omega) (by omega) (by omega) hy]
    show J_X1_make_x136_5 v q (nI (P (12 + m))) (VW w v q c (mv1 c L m p P).2.1 (upd (upd g0 6 (nI (mv1 c L m p P).1)) 5 (nI (mv1 c L m p P).2.2))) = _
    rw [hcap _ (by rw [upd_ne (by decide), upd_ne (by decide), g00]) (by rw [upd_ne (by decide), upd_ne (by decide), g01]) (by rw [upd_ne (by decide), upd_self])]
    congr 3
    rw [← hg0]
    funext j
    match j with
    | 0 => rfl
    | 1 => rfl
    | 2 => rfl
    | 3 => rfl
    | 4 => rfl
    | 5 => rfl
    | 6 => rfl
    | 7 => rfl
    | 8 => rfl
    | 9 => rfl
    | j + 10 => simp [upd, mvF]
  have hh : hadS (lapS c L m (m * c + p) P).1 (lapS c L m (m * c + p) P).2 = 0 ↔ ¬ ((lapS c L m (m * c + p) P).1 ≠ 50 ∧ 1 < (lapS c L m (m * c + p) P).2 (lapS c L m (m * c + p) P).1) := by
    unfold hadS
    by_cases z1 : (lapS c L m (m * c + p) P).1 = 50
    · rw [if_pos z1]
      exact ⟨fun _ z => z.1 z1, fun _ => rfl⟩
    · rw [if_neg z1]
      by_cases z2 : (lapS c L m (m * c + p) P).2 (lapS c L m (m * c + p) P).1 ≤ 1
      · rw [if_pos z2]
        exact ⟨fun _ z => by omega, fun _ => rfl⟩
      · rw [if_neg z2]
        exact ⟨fun z => absurd z (by decide), fun z => absurd ⟨z1, by omega⟩ z⟩
  simp only [bd_eq]
  unfold J_X1_make_j117_1
  by_cases z : hadS (lapS c L m (m * c + p) P).1 (lapS c L m (m * c + p) P).2 = 0
  · rw [if_pos z]
    exact next 0 ⟨fun _ y => hh.mp z ⟨y.2.1, y.2.2⟩, fun _ => rfl⟩
  · rw [if_neg z, d_obeys 1 (by rw [VW_v, upd_ne (by decide), upd_ne (by decide), g00]) (bit_1 L hL), bc_eq]
    cases h1 : L.testBit 1 with
    | false =>
      rw [if_pos (by decide)]
      exact next 0 ⟨fun _ y => absurd (h1.symm.trans y.1) (by decide), fun _ => rfl⟩
    | true =>
      rw [if_pos rfl, if_neg (by decide)]
      exact next 1 ⟨fun y => absurd y (by decide), fun y => absurd (hh.mpr (fun u => y ⟨h1, u.1, u.2⟩)) z⟩
end CE
