/-! positions are copied; is it OVER, can a PIT be sown -/
theorem wC_wR (w : Wd) (a b : Nat) (sp dp n : Int32) : wC w a b sp dp n = wR w b (va_cpy (w.1 a) (w.1 b) sp.toNatClampNeg dp.toNatClampNeg n.toNatClampNeg) := by
  unfold wC wR
  congr 1
  funext i k
  by_cases h : i = b
  · subst h
    simp
  · simp [h]
theorem cpy_12 (P Q : Nat → Nat) : va_cpy (sP P) (sP Q) 0 0 12 = sP P := by
  funext k
  unfold va_cpy
  by_cases h : k < 12
  · rw [if_pos ⟨Nat.zero_le _, by omega⟩]
    simp
  · rw [if_neg (by omega)]
    simp [sP, h]
theorem d_take {w : Wd} {q r c1 c2 : Nat} {P1 P2 : Nat → Nat} (hq : q % 3 = 0) (hr : r % 3 = 0) (hne : q ≠ r) (h1 : isAt w q c1 P1) (h2 : isAt w r c2 P2) : D_X5_take q r w = some (pW w q c2 P2) := by
  have z0 : (0 : Int32).toNatClampNeg = 0 := by decide
  have z1 : (1 : Int32).toNatClampNeg = 1 := by decide
  have z12 : (12 : Int32).toNatClampNeg = 12 := by decide
  have b1 : ib 0 2 = true := by decide
  have b2 : ib 1 2 = true := by decide
  have bc' : cpb 0 0 12 12 12 = true := by decide
  unfold D_X5_take
  simp only [bc', b1, b2, if_true, bd_eq, wC_wR, z0, z1, z12, h1.2.1, h2.2.1, cpy_12, wI_wR]
  have e1 : r + 2 ≠ q + 1 := by omega
  have e2 : r + 2 ≠ q + 2 := by omega
  have e3 : q + 2 ≠ q + 1 := by omega
  have e4 : r ≠ q + 1 := by omega
  have e5 : r ≠ q + 2 := by omega
  have e6 : q ≠ q + 2 := by omega
  have e7 : q ≠ q + 1 := by omega
  have e8 : r ≠ q := fun h => hne h.symm
  simp only [wR_ne e1, wR_ne e2, wR_ne e3, wR_ne e4, wR_ne e5, wR_ne e6, wR_ne e7, wR_ne e8, wR_self, wR_wR, h1.1, h1.2.2, h2.1, h2.2.2, oP_2, oP_3, oP_4, tP_at (show (0 : Nat) < 2 by decide), tP_at (show (1 : Nat) < 2 by decide)]
  have t : upd (upd (tP P1) 0 (nI (P2 (12 + 0)))) 1 (nI (P2 (12 + 1))) = tP P2 := by
    funext k
    match k with
    | 0 => rfl
    | 1 => rfl
    | k + 2 => rfl
  have o : upd (upd (upd (oP c1 P1) 2 (nI c2)) 3 (nI (P2 14))) 4 (nI (P2 15)) = oP c2 P2 := by
    funext k
    match k with
    | 0 => rfl
    | 1 => rfl
    | 2 => rfl
    | 3 => rfl
    | 4 => rfl
    | k + 5 => simp [upd, oP]
  rw [t, o]
  unfold pW
  rw [wR_comm (show q + 2 ≠ q by omega), wR_comm (show q + 1 ≠ q by omega)]
/-- a board's row of the reference -/
def isM (w : Wd) (a : Nat) (P : Nat → Nat) : Prop := w.1 a = eP P ∧ ∀ k, 16 ≤ k → P k = 0
theorem loop_lay {w : Wd} {a b k0 : Nat} {k : Wd → Option Wd} {F G : Nat → Int32} (hab : a ≠ b) (ha : w.1 a = F) (hla : 16 ≤ ln a) (hk : k0 + 16 ≤ ln b) (hlb : ln b < 2 ^ 30) (hla2 : ln a < 2 ^ 30) : ∀ (m i n : Nat), i + m = 16 → m < n →
    L_X12_lay_2 a b (nI k0) k n (nI i) (wR w b (fun j => if k0 ≤ j ∧ j < k0 + i then F (j - k0) else G j)) = k (wR w b (fun j => if k0 ≤ j ∧ j < k0 + 16 then F (j - k0) else G j)) := by
  intro m
  induction m with
  | zero =>
    intro i n hi hn
    obtain ⟨n, rfl⟩ : ∃ n', n = n' + 1 := ⟨n - 1, by omega⟩
    have : i = 16 := by omega
    subst this
    unfold L_X12_lay_2
    rw [if_pos (by decide)]
  | succ m ih =>
    intro i n hi hn
    obtain ⟨n, rfl⟩ : ∃ n', n = n' + 1 := ⟨n - 1, by omega⟩
    unfold L_X12_lay_2
    rw [show (16 : Int32) = nI 16 from by decide +kernel, if_neg (nI_ge (by omega) (by omega)), if_pos (ib_nI (by omega) (by omega)), nI_add, if_pos (ib_nI (by omega) (by omega)), bd_eq, bd_eq, nI_clamp (by omega), nI_clamp (by omega), wR_ne hab, ha, wI_wR, wR_self, wR_wR, nI_1]
    have e : upd (fun j => if k0 ≤ j ∧ j < k0 + i then F (j - k0) else G j) (k0 + i) (F i) = (fun j => if k0 ≤ j ∧ j < k0 + (i + 1) then F (j - k0) else G j) := by
      funext j
      unfold upd
      by_cases h : j = k0 + i
      · subst h
        rw [if_pos rfl, if_pos ⟨by omega, by omega⟩, Nat.add_sub_cancel_left]
      · rw [if_neg h]
        show (if k0 ≤ j ∧ j < k0 + i then F (j - k0) else G j) = _
        by_cases h2 : k0 ≤ j ∧ j < k0 + i
        · rw [if_pos h2, if_pos ⟨h2.1, by omega⟩]
        · rw [if_neg h2, if_neg (by omega)]
    rw [e]
    exact ih (i + 1) n (by omega) (by omega)
theorem d_layG {w : Wd} {a b k0 : Nat} (hab : a ≠ b) (hla : 16 ≤ ln a) (hk : k0 + 16 ≤ ln b) (hlb : ln b < 2 ^ 30) (hla2 : ln a < 2 ^ 30) : D_X12_lay a b (nI k0) w = some (wR w b (fun j => if k0 ≤ j ∧ j < k0 + 16 then w.1 a (j - k0) else w.1 b j)) := by
  unfold D_X12_lay
  have e := loop_lay (w := w) (a := a) (b := b) (k0 := k0) (k := J_X12_lay_x22_1) (F := w.1 a) (G := w.1 b) hab rfl hla hk hlb hla2 16 0 FU (by omega) (by unfold FU; omega)
  have e0 : (fun j => if k0 ≤ j ∧ j < k0 + 0 then w.1 a (j - k0) else w.1 b j) = w.1 b := by
    funext j
    rw [if_neg (by omega)]
  rw [e0, wR_id, nI_0] at e
  exact e
theorem d_lay {w : Wd} {a b : Nat} {P Q : Nat → Nat} (hab : a ≠ b) (hla : ln a = 16) (hlb : ln b = 16) (ha : isM w a P) (hb : isM w b Q) : D_X12_lay a b 0 w = some (wR w b (eP P)) := by
  have e := d_layG (w := w) (a := a) (b := b) (k0 := 0) hab (by omega) (by omega) (by omega) (by omega)
  rw [nI_0] at e
  rw [e]
  congr 2
  funext j
  rw [ha.1, hb.1]
  by_cases h : j < 16
  · rw [if_pos ⟨Nat.zero_le _, by omega⟩]
    rfl
  · rw [if_neg (by omega)]
    unfold eP
    rw [ha.2 j (by omega), hb.2 j (by omega)]
theorem loop_seeds {w : Wd} {a b n0 : Nat} {S : Nat → Nat} {k : Int32 → Wd → Option (Int32 × Wd)} (hs : ∀ i, i < n0 → w.1 a (b + i) = nI (S (b + i))) (hb : b + n0 ≤ ln a) (hl : ln a < 2 ^ 30) : ∀ (m p n : Nat), p + m = n0 → m < n → L_X12_seeds_6 a (nI b) (nI n0) k n (nI (sumS S b p)) (nI p) w = k (nI (sumS S b n0)) w := by
  intro m
  induction m with
  | zero =>
    intro p n hp hn
    obtain ⟨n, rfl⟩ : ∃ n', n = n' + 1 := ⟨n - 1, by omega⟩
    have : p = n0 := by omega
    subst this
    unfold L_X12_seeds_6
    rw [if_pos (nI_le (Nat.le_refl _) (by omega))]
  | succ m ih =>
    intro p n hp hn
    obtain ⟨n, rfl⟩ : ∃ n', n = n' + 1 := ⟨n - 1, by omega⟩
    unfold L_X12_seeds_6
    rw [if_neg (nI_ge (by omega) (by omega)), nI_add, if_pos (ib_nI (by omega) (by omega)), bd_eq, bd_eq, nI_clamp (by omega), hs _ (by omega), nI_add, nI_1]
    exact ih (p + 1) n (by omega) (by omega)
theorem d_seeds {w : Wd} {a b n0 : Nat} {S : Nat → Nat} (hs : ∀ i, i < n0 → w.1 a (b + i) = nI (S (b + i))) (hb : b + n0 ≤ ln a) (hl : ln a < 2 ^ 30) (hn : n0 < 1000) : D_X12_seeds a (nI b) (nI n0) w = some (nI (sumS S b n0), w) := by
  unfold D_X12_seeds
  have e := loop_seeds (k := J_X12_seeds_x29_1) hs hb hl n0 0 FU (by omega) (by unfold FU; omega)
  rw [show sumS S b 0 = 0 from rfl, nI_0] at e
  exact e
theorem sumS_lt {P : Nat → Nat} {b : Nat} : ∀ n, b + n ≤ 14 → sumS P b n ≤ tot P := by
  have key : ∀ n b k, sumS P b n ≤ sumS P 0 (b + n + k) := by
    intro n
    induction n with
    | zero => intro b k; exact Nat.zero_le _
    | succ n ih =>
      intro b k
      show sumS P b n + P (b + n) ≤ sumS P 0 (b + (n + 1) + k)
      have h1 : ∀ j, sumS P 0 (b + n) + P (b + n) ≤ sumS P 0 (b + (n + 1) + j) := by
        intro j
        induction j with
        | zero => exact Nat.le_of_eq (by show sumS P 0 (b + n) + P (b + n) = sumS P 0 (b + n) + P (0 + (b + n)); rw [Nat.zero_add])
        | succ j ihj =>
          have : sumS P 0 (b + (n + 1) + (j + 1)) = sumS P 0 (b + (n + 1) + j) + P (0 + (b + (n + 1) + j)) := rfl
          omega
      have h2 := ih b 0
      have h3 := h1 k
      rw [Nat.add_zero] at h2
      omega
  intro n h
  have := key n b (14 - (b + n))
  rw [show b + n + (14 - (b + n)) = 14 by omega] at this
  exact this
/-- it is OVER -/
def ovS (c : Nat) (P : Nat → Nat) : Prop := sumS P (P 14 * c) c = 0
theorem d_isOver {w : Wd} {q c : Nat} {P : Nat → Nat} (h : isAt w q c P) (h6 : c ≤ 6) (hm : P 14 ≤ 1) (ht : tot P < 400000) : D_X5_isOver q w = some (if sumS P (P 14 * c) c = 0 then 1 else 0, w) := by
  have hb := mc_le h6 hm
  have hs := sumS_lt (P := P) (b := P 14 * c) c (by omega)
  unfold D_X5_isOver
  rw [isAt_m h, d_inPitsOf (isAt_c h) (isAt_s h) h6 hm, bc_eq]
  simp only [nI_z (show sumS P (P 14 * c) c < 2 ^ 31 by omega)]
  split <;> rfl
theorem d_isOverM {w : Wd} {a c : Nat} {P : Nat → Nat} (hla : ln a = 16) (h : w.1 a = eP P) (hc : w.1 119 1 = nI c) (h6 : c ≤ 6) (hm : P 14 ≤ 1) (ht : tot P < 400000) : D_X12_isOver a w = some (if sumS P (P 14 * c) c = 0 then 1 else 0, w) := by
  have hb := mc_le h6 hm
  have hs := sumS_lt (P := P) (b := P 14 * c) c (by omega)
  unfold D_X12_isOver
  rw [hla, if_pos (by decide), hc, h, show (14 : Int32).toNatClampNeg = 14 from by decide, eP_at, pk_mul, show c * P 14 = P 14 * c from Nat.mul_comm _ _, d_seeds (S := P) (fun i _ => by rw [h]; rfl) (by rw [hla]; omega) (by rw [hla]; omega) (by omega), bc_eq]
  simp only [nI_z (show sumS P (P 14 * c) c < 2 ^ 31 by omega)]
  split <;> rfl
/-- what a call that asks a PIT p answers without looking further -/
def rfS (c : Nat) (P : Nat → Nat) (p : Nat) : Int32 := if P (P 14 * c + p) = 0 then -2 else 0
theorem d_refuses {w : Wd} {a c : Nat} {P : Nat → Nat} (hla : ln a = 16) (h : w.1 a = eP P) (hc : w.1 119 1 = nI c) (h2 : 2 ≤ c) (h6 : c ≤ 6) (hm : P 14 ≤ 1) (ht : tot P < 400000) {p : Nat} (hp : p < c) : D_X12_refuses a (nI p) w = some (rfS c P p, w) := by
  have hb := mc_le h6 hm
  have hs := le_tot (P := P) (i := P 14 * c + p) (by omega)
  unfold D_X12_refuses
  rw [hc, nI_1', pk_sub (by omega), nI_0', d_in (by omega) (by omega) (by omega), if_pos (by omega), bc_eq, if_neg (by rw [← nI_0']; decide), hla, if_pos (by decide), hc, h, show (14 : Int32).toNatClampNeg = 14 from by decide, eP_at, pk_mul, nI_add, show c * P 14 = P 14 * c from Nat.mul_comm _ _, if_pos (ib_nI (by omega) (by omega)), nI_clamp (by omega), eP_at]
  simp only [nI_eq (show P (P 14 * c + p) < 2 ^ 31 by omega) (show 0 < 2 ^ 31 by omega)]
  unfold rfS
  by_cases h0 : P (P 14 * c + p) = 0
  · rw [if_pos h0, if_pos h0]
  · rw [if_neg h0, if_neg h0, nI_0]
theorem d_refuses_no {w : Wd} {a c : Nat} {x : Int32} (hc : w.1 119 1 = nI c) (h2 : 2 ≤ c) (h6 : c ≤ 6) (hx : x < 0 ∨ nI c ≤ x) : D_X12_refuses a x w = some (-1, w) := by
  unfold D_X12_refuses D_X12_in
  rw [hc, nI_1', pk_sub (by omega)]
  rcases hx with h | h
  · rw [if_pos h, bc_eq, if_pos rfl]
  · by_cases h1 : x < 0
    · rw [if_pos h1, bc_eq, if_pos rfl]
    · obtain ⟨j, hj, rfl⟩ := nI_of h1
      have : c ≤ j := (nI_leI (by omega) hj).mp h
      rw [if_neg h1, if_pos (nI_lt (by omega) hj), bc_eq, if_pos rfl]
theorem d_refusal {w : Wd} {c : Nat} {P : Nat → Nat} (h : isAt w 0 c P) (h6 : c ≤ 6) (hm : P 14 ≤ 1) (ht : tot P < 400000) {p : Nat} (hp : p < c) : D_X11_refusal (nI p) w = some (rfS c P p, w) := by
  unfold D_X11_refusal
  rw [if_neg (nI_pos (by omega)), isAt_c h, if_pos (nI_lt hp (by omega)), d_canMove h h6 hm ht hp, bc_eq]
  unfold rfS
  by_cases h0 : P (P 14 * c + p) = 0
  · rw [if_pos h0, if_pos h0, if_pos rfl]
  · rw [if_neg h0, if_neg h0, if_neg (by decide)]
theorem d_refusal_no {w : Wd} {c : Nat} {x : Int32} (hc : w.1 0 2 = nI c) (hx : x < 0 ∨ nI c ≤ x) : D_X11_refusal x w = some (-1, w) := by
  unfold D_X11_refusal
  rw [hc]
  rcases hx with h | h
  · rw [if_pos h]
  · by_cases h1 : x < 0
    · rw [if_pos h1]
    · rw [if_neg h1, if_neg (Int32.not_lt.mpr h)]
