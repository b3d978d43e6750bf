/-! the class makes a MOVE -/
def oP (c : Nat) (P : Nat → Nat) : Nat → Int32 := fun k => if k = 2 then nI c else if k = 3 then nI (P 14) else if k = 4 then nI (P 15) else 0
def sP (P : Nat → Nat) : Nat → Int32 := fun k => if k < 12 then nI (P k) else 0
def tP (P : Nat → Nat) : Nat → Int32 := fun k => if k < 2 then nI (P (12 + k)) else 0
/-- a position of the class lies in its three rows -/
def isAt (w : Wd) (q c : Nat) (P : Nat → Nat) : Prop := w.1 q = oP c P ∧ w.1 (q + 1) = sP P ∧ w.1 (q + 2) = tP P
def pW (w : Wd) (q c : Nat) (P : Nat → Nat) : Wd := wR (wR (wR w q (oP c P)) (q + 1) (sP P)) (q + 2) (tP P)
theorem pW_at (w : Wd) (q c : Nat) (P : Nat → Nat) : isAt (pW w q c P) q c P := by
  refine ⟨?_, ?_, ?_⟩
  · unfold pW
    rw [wR_ne (by omega), wR_ne (by omega), wR_self]
  · unfold pW
    rw [wR_ne (by omega), wR_self]
  · exact wR_self _ _ _
theorem pW_id {w : Wd} {q c : Nat} {P : Nat → Nat} (h : isAt w q c P) : pW w q c P = w := by
  unfold pW
  rw [← h.1, wR_id, ← h.2.1, wR_id, ← h.2.2, wR_id]
theorem pW_ne {w : Wd} {q c j : Nat} {P : Nat → Nat} (h : j ≠ q) (h1 : j ≠ q + 1) (h2 : j ≠ q + 2) : (pW w q c P).1 j = w.1 j := by
  unfold pW
  rw [wR_ne h2, wR_ne h1, wR_ne h]
/-- a position and one row more -/
def VW (w : Wd) (v q c : Nat) (P : Nat → Nat) (f : Nat → Int32) : Wd := wR (pW w q c P) v f
section VWs
variable {w : Wd} {v q c : Nat} {P : Nat → Nat} {f : Nat → Int32}
theorem VW_v : (VW w v q c P f).1 v = f := wR_self _ _ _
theorem VW_at (hv : q + 2 < v) : isAt (VW w v q c P f) q c P := by
  obtain ⟨h1, h2, h3⟩ := pW_at w q c P
  exact ⟨by unfold VW; rw [wR_ne (by omega)]; exact h1, by unfold VW; rw [wR_ne (by omega)]; exact h2, by unfold VW; rw [wR_ne (by omega)]; exact h3⟩
theorem VW_q (hv : q + 2 < v) : (VW w v q c P f).1 q = oP c P := (VW_at hv).1
theorem VW_q1 (hv : q + 2 < v) : (VW w v q c P f).1 (q + 1) = sP P := (VW_at hv).2.1
theorem VW_q2 (hv : q + 2 < v) : (VW w v q c P f).1 (q + 2) = tP P := (VW_at hv).2.2
theorem VW_wv {k : Nat} {x : Int32} : wI (VW w v q c P f) v k x = VW w v q c P (upd f k x) := by
  rw [wI_wR, VW_v]
  unfold VW
  rw [wR_wR]
theorem upd_sP {k x : Nat} (h : k < 12) : upd (sP P) k (nI x) = sP (uN P k x) := by
  funext j
  by_cases e : j = k
  · subst e
    simp [upd, sP, h, uN]
  · simp [upd, sP, e, uN]
theorem sP_hi {k x : Nat} (h : 12 ≤ k) : sP (uN P k x) = sP P := by
  funext j
  by_cases e : j < 12
  · simp [sP, e, uN_ne (show j ≠ k by omega)]
  · simp [sP, e]
theorem upd_tP {k x : Nat} (h : k < 2) : upd (tP P) k (nI x) = tP (uN P (12 + k) x) := by
  funext j
  by_cases e : j = k
  · subst e
    simp [upd, tP, h, uN]
  · simp [upd, tP, e, uN]
theorem tP_lo {k x : Nat} (h : k < 12 ∨ 14 ≤ k) : tP (uN P k x) = tP P := by
  funext j
  by_cases e : j < 2
  · simp [tP, e, uN_ne (show 12 + j ≠ k by omega)]
  · simp [tP, e]
theorem oP_lo {k x : Nat} (h : k < 14) : oP c (uN P k x) = oP c P := by
  funext j
  simp [oP, uN_ne (show (14 : Nat) ≠ k by omega), uN_ne (show (15 : Nat) ≠ k by omega)]
theorem upd_oP3 {x : Nat} : upd (oP c P) 3 (nI x) = oP c (uN P 14 x) := by
  funext j
  by_cases e : j = 3
  · subst e
    simp [upd, oP, uN]
  · simp [upd, oP, e, uN]
theorem upd_oP4 {x : Nat} : upd (oP c P) 4 (nI x) = oP c (uN P 15 x) := by
  funext j
  by_cases e : j = 4
  · subst e
    simp [upd, oP, uN]
  · simp [upd, oP, e, uN]
theorem pW_s {k x : Nat} (h : k < 12) : wI (pW w q c P) (q + 1) k (nI x) = pW w q c (uN P k x) := by
  rw [wI_wR, (pW_at w q c P).2.1, upd_sP h]
  unfold pW
  rw [wR_comm (by omega), wR_wR, oP_lo (by omega), tP_lo (Or.inl h)]
theorem pW_t {k x : Nat} (h : k < 2) : wI (pW w q c P) (q + 2) k (nI x) = pW w q c (uN P (12 + k) x) := by
  rw [wI_wR, (pW_at w q c P).2.2, upd_tP h]
  unfold pW
  rw [wR_wR, oP_lo (by omega), sP_hi (by omega)]
theorem pW_o3 {x : Nat} : wI (pW w q c P) q 3 (nI x) = pW w q c (uN P 14 x) := by
  rw [wI_wR, (pW_at w q c P).1, upd_oP3]
  unfold pW
  rw [wR_comm (show q + 2 ≠ q by omega), wR_comm (show q + 1 ≠ q by omega), wR_wR, sP_hi (by omega), tP_lo (Or.inr (by omega))]
theorem pW_o4 {x : Nat} : wI (pW w q c P) q 4 (nI x) = pW w q c (uN P 15 x) := by
  rw [wI_wR, (pW_at w q c P).1, upd_oP4]
  unfold pW
  rw [wR_comm (show q + 2 ≠ q by omega), wR_comm (show q + 1 ≠ q by omega), wR_wR, sP_hi (by omega), tP_lo (Or.inr (by omega))]
theorem wI_comm {w : Wd} {i j k : Nat} {x : Int32} {f : Nat → Int32} (h : i ≠ j) : wI (wR w j f) i k x = wR (wI w i k x) j f := by
  rw [wI_wR, wI_wR, wR_ne h, wR_comm (fun e => h e.symm)]
theorem VW_s (hv : q + 2 < v) {k x : Nat} (h : k < 12) : wI (VW w v q c P f) (q + 1) k (nI x) = VW w v q c (uN P k x) f := by
  unfold VW
  rw [wI_comm (by omega), pW_s h]
theorem VW_s0 (hv : q + 2 < v) {k : Nat} (h : k < 12) : wI (VW w v q c P f) (q + 1) k 0 = VW w v q c (uN P k 0) f := by
  have e := VW_s (w := w) (c := c) (P := P) (f := f) hv (x := 0) h
  rw [nI_0] at e
  exact e
theorem VW_t (hv : q + 2 < v) {k x : Nat} (h : k < 2) : wI (VW w v q c P f) (q + 2) k (nI x) = VW w v q c (uN P (12 + k) x) f := by
  unfold VW
  rw [wI_comm (by omega), pW_t h]
theorem VW_o3 (hv : q + 2 < v) {x : Nat} : wI (VW w v q c P f) q 3 (nI x) = VW w v q c (uN P 14 x) f := by
  unfold VW
  rw [wI_comm (by omega), pW_o3]
theorem VW_o4 (hv : q + 2 < v) {x : Nat} : wI (VW w v q c P f) q 4 (nI x) = VW w v q c (uN P 15 x) f := by
  unfold VW
  rw [wI_comm (by omega), pW_o4]
theorem sP_at {k : Nat} (h : k < 12) : sP P k = nI (P k) := by simp [sP, h]
theorem tP_at {k : Nat} (h : k < 2) : tP P k = nI (P (12 + k)) := by simp [tP, h]
theorem oP_2 : oP c P 2 = nI c := by simp [oP]
theorem oP_3 : oP c P 3 = nI (P 14) := by simp [oP]
theorem oP_4 : oP c P 4 = nI (P 15) := by simp [oP]
end VWs
theorem d_placeBehind {w : Wd} {v c L m a : Nat} (hl : w.1 v 0 = nI L) (hs : w.1 v 1 = nI m) (h2 : 2 ≤ c) (h6 : c ≤ 6) (hL : L < 64) (hm : m ≤ 1) (ha : okPl c a) : D_X1_placeBehind v (nI a) (nI c) w = some (nI (behS c L m a), w) := by
  have ha' : a < 100 := by rcases ha with h | h <;> omega
  have hlast : c * (m + 1) - 1 = lastS c m := by
    unfold lastS
    rcases (by omega : m = 0 ∨ m = 1) with h | h <;> subst h <;> simp <;> omega
  have h1 : 1 ≤ c * (m + 1) := by
    rcases (by omega : m = 0 ∨ m = 1) with h | h <;> subst h <;> omega
  have hl2 : lastS c m < 100 := by unfold lastS; split <;> omega
  have hlc : lastS c m < 2 * c := by unfold lastS; split <;> omega
  unfold D_X1_placeBehind J_X1_placeBehind_j28_2 J_X1_placeBehind_j43_1
  simp only [bd_eq]
  rw [hs, hl, nI_1, pk_mul, nI_1', pk_sub h1, hlast, nI_2', pk_mul, nI_add, nI_add]
  simp only [nI_eq (show a < 2 ^ 31 by omega) (show lastS c m < 2 ^ 31 by omega), nI_is n50 (show a < 2 ^ 31 by omega) (show 50 < 2 ^ 31 by omega), nI_leI (show 2 * c < 2 ^ 31 by omega) (show lastS c m + 1 < 2 ^ 31 by omega), nI_leI (show 2 * c < 2 ^ 31 by omega) (show a + 1 < 2 ^ 31 by omega)]
  have hb := bit_0 L hL
  rw [nI_1'] at hb
  simp only [hb]
  have wrap : ∀ x, x < 2 * c → (if 2 * c ≤ x + 1 then some ((0 : Int32), w) else some (nI (x + 1), w)) = some (nI ((x + 1) % (2 * c)), w) := by
    intro x hx
    by_cases h : 2 * c ≤ x + 1
    · rw [if_pos h, show x + 1 = 2 * c by omega, Nat.mod_self]; rfl
    · rw [if_neg h, Nat.mod_eq_of_lt (by omega)]
  rw [wrap _ hlc]
  unfold behS
  by_cases h50 : a = 50
  · rw [if_pos h50, if_pos h50, if_neg (show ¬ a = lastS c m by omega)]
  · have ha2 : a < 2 * c := by rcases ha with h | h; exact h; exact absurd h h50
    rw [wrap _ ha2, if_neg h50, if_neg h50]
    by_cases h3 : a = lastS c m
    · rw [if_pos h3]
      cases h4 : L.testBit 0 with
      | false => simp
      | true => simp [h3, n50]
    · rw [if_neg h3, if_neg (fun z => h3 z.1)]
/-- did the last SEED fall in a PIT that had SEEDS -/
def hadS (q : Nat) (P : Nat → Nat) : Int32 := if q = 50 then 0 else if P q ≤ 1 then 0 else 1
section CS
variable {w : Wd} {v q c L m fr : Nat} {f : Nat → Int32} {x11 : Int32} {k : Int32 → Wd → Option (Int32 × Wd)}
theorem sow_put (hv : q + 2 < v) (h6 : c ≤ 6) (hm : m ≤ 1) {r : Int32 → Int32 → Wd → Option (Int32 × Wd)} {i b : Nat} {P : Nat → Nat} (hs : f 1 = nI m) (hb : f 6 = nI b) (hq : okPl c b) (ht : tot P < 500000) :
    J_X1_sowLap_j83_3 r (nI i) v q (VW w v q c P f) = r (hadS b (putS m P b)) (nI (i + 1)) (VW w v q c (putS m P b) f) := by
  have hb100 : b < 100 := by rcases hq with h | h <;> omega
  unfold J_X1_sowLap_j83_3 J_X1_sowLap_j143_2 J_X1_sowLap_j128_1
  simp only [bd_eq, nI_1]
  rw [VW_v, hb, hs]
  simp only [nI_is n50 (show b < 2 ^ 31 by omega) (show 50 < 2 ^ 31 by omega)]
  unfold hadS putS plS
  by_cases h50 : b = 50
  · rw [if_pos h50, if_pos (ib_nI (by omega) (by omega)), if_pos (ib_nI (by omega) (by omega)), VW_q2 hv, nI_clamp (by omega), tP_at (by omega), nI_1, VW_t hv (by omega), if_pos h50, if_pos h50]
  · have hb12 : b < 12 := by rcases hq with h | h <;> omega
    have hPb : P b ≤ tot P := le_tot (by omega)
    have hib : ib (nI b) 12 = true := ib_nI hb12 (by omega)
    rw [if_neg h50, if_neg h50, if_pos hib, if_neg h50]
    simp only [VW_q1 hv, nI_clamp (show b < 2 ^ 31 by omega), sP_at hb12, VW_v, hb, hib, if_true, nI_1, VW_s hv hb12, uN_self, nI_le0 (show P b < 2 ^ 31 by omega)]
    by_cases h0 : P b = 0
    · rw [if_pos h0, if_pos (by omega)]
    · rw [if_neg h0, if_neg (by omega)]
theorem loop_sow (hv : q + 2 < v) (hl : f 0 = nI L) (hs1 : f 1 = nI m) (h2 : 2 ≤ c) (h6 : c ≤ 6) (hL : L < 64) (hm : m ≤ 1) (hx : ∀ b, b < 100 → (nI b = x11 ↔ b = fr ∧ L.testBit 3 = true)) {N : Nat} (hN : N < 500000) : ∀ (s n i a : Nat) (P : Nat → Nat) (x : Int32), okPl c a → i + s = N → s < n → tot P + s < 500000 →
    L_X1_sowLap_36 v q (nI N) x11 k n x (nI i) (VW w v q c P (upd f 6 (nI a))) = k (if s = 0 then x else hadS (sowS c L m fr s a P).1 (sowS c L m fr s a P).2) (VW w v q c (sowS c L m fr s a P).2 (upd f 6 (nI (sowS c L m fr s a P).1))) := by
  intro s
  induction s with
  | zero =>
    intro n i a P x ha hi hn ht
    obtain ⟨n, rfl⟩ : ∃ n', n = n' + 1 := ⟨n - 1, by omega⟩
    unfold L_X1_sowLap_36
    rw [if_pos (nI_le (by omega) (by omega))]
    rfl
  | succ s ih =>
    intro n i a P x ha hi hn ht
    obtain ⟨n, rfl⟩ : ∃ n', n = n' + 1 := ⟨n - 1, by omega⟩
    have hb : okPl c (behS c L m a) := behS_ok h2
    have hb100 : behS c L m a < 100 := by rcases hb with h | h <;> omega
    have hpb := fun y (hy : okPl c y) (g : Nat → Int32) (e0 : g 0 = nI L) (e1 : g 1 = nI m) => d_placeBehind (w := VW w v q c P g) (v := v) (a := y) (by rw [VW_v]; exact e0) (by rw [VW_v]; exact e1) h2 h6 hL hm hy
    have f0 : ∀ y : Int32, (upd f 6 y) 0 = nI L := fun y => by rw [upd_ne (by decide), hl]
    have f1 : ∀ y : Int32, (upd f 6 y) 1 = nI m := fun y => by rw [upd_ne (by decide), hs1]
    have tail : ∀ b, okPl c b → b = nxS c L m fr a → J_X1_sowLap_j83_3 (L_X1_sowLap_36 v q (nI N) x11 k n) (nI i) v q (VW w v q c P (upd f 6 (nI b))) = k (if s + 1 = 0 then x else hadS (sowS c L m fr (s + 1) a P).1 (sowS c L m fr (s + 1) a P).2) (VW w v q c (sowS c L m fr (s + 1) a P).2 (upd f 6 (nI (sowS c L m fr (s + 1) a P).1))) := by
      intro b hob hbe
      rw [sow_put hv h6 hm (f1 _) upd_self hob (by omega), ih n (i + 1) b (putS m P b) _ hob (by omega) (by omega) (by rw [putS_tot h6 hm hob]; omega), if_neg (show ¬ s + 1 = 0 by omega)]
      subst hbe
      by_cases h0 : s = 0
      · subst h0
        rfl
      · rw [if_neg h0]
        rfl
    unfold L_X1_sowLap_36
    rw [if_neg (nI_ge (by omega) (by omega)), VW_v, upd_self, VW_q hv, oP_2, hpb a ha _ (f0 _) (f1 _), bc_eq, VW_wv, upd_upd]
    simp only [bd_eq]
    rw [VW_v, upd_self]
    by_cases h : nI (behS c L m a) = x11
    · have h' := (hx _ hb100).mp h
      rw [if_pos h, VW_q hv, oP_2, hpb _ hb _ (f0 _) (f1 _), bc_eq, VW_wv, upd_upd]
      exact tail _ (behS_ok h2) (by unfold nxS; rw [if_pos h'])
    · rw [if_neg h]
      exact tail _ hb (by unfold nxS; rw [if_neg (fun z => h ((hx _ hb100).mpr z))])
end CS
section CS2
variable {w : Wd} {v q c L m fr : Nat} {f : Nat → Int32}
theorem d_sowLap (hv : q + 2 < v) (hl : f 0 = nI L) (hs1 : f 1 = nI m) (h2 : 2 ≤ c) (h6 : c ≤ 6) (hL : L < 64) (hm : m ≤ 1) {P : Nat → Nat} (hf : f 6 = nI fr) (hfr : fr < 2 * c) (hP : P fr ≠ 0) (ht : tot P < 400000) :
    D_X1_sowLap v q (nI fr) (VW w v q c P f) = some (hadS (lapS c L m fr P).1 (lapS c L m fr P).2, VW w v q c (lapS c L m fr P).2 (upd f 6 (nI (lapS c L m fr P).1))) := by
  have hPf : P fr ≤ tot P := le_tot (by omega)
  have hib : ib (nI fr) 12 = true := ib_nI (by omega) (by omega)
  unfold D_X1_sowLap
  rw [if_pos hib, bd_eq, VW_q1 hv, nI_clamp (by omega), sP_at (by omega), VW_s0 hv (by omega), bd_eq]
  unfold D_X1_obeys
  rw [if_pos hib, VW_v, hl]
  have hf6 : upd f 6 (nI fr) = f := by
    funext j
    by_cases e : j = 6
    · subst e
      rw [upd_self, hf]
    · rw [upd_ne e]
  have fin : ∀ x11 : Int32, (∀ b, b < 100 → (nI b = x11 ↔ b = fr ∧ L.testBit 3 = true)) → J_X1_sowLap_j28_5 v q (nI (P fr)) x11 (VW w v q c (uN P fr 0) f) = some (hadS (lapS c L m fr P).1 (lapS c L m fr P).2, VW w v q c (lapS c L m fr P).2 (upd f 6 (nI (lapS c L m fr P).1))) := by
    intro x11 hx
    unfold J_X1_sowLap_j28_5
    have htt : tot (uN P fr 0) + P fr = tot P := tot_uN (by omega)
    have e := loop_sow (w := w) (v := v) (q := q) (c := c) (L := L) (m := m) (fr := fr) (f := f) (x11 := x11) (k := J_X1_sowLap_x149_4) hv hl hs1 h2 h6 hL hm hx (N := P fr) (by omega) (P fr) FU 0 fr (uN P fr 0) 0 (Or.inl hfr) (by omega) (by unfold FU; omega) (by omega)
    rw [hf6, nI_0] at e
    rw [e, if_neg hP]
    unfold J_X1_sowLap_x149_4
    rw [if_pos]
    · rfl
    · unfold hadS
      split
      · rfl
      · split <;> rfl
  simp only [bd_eq]
  have hb := bit_3 L hL
  have h8 : ∀ (A B : Option (Int32 × Wd)), (if (nI L &&& 8) = 0 then A else B) = if L.testBit 3 = false then A else B := by
    intro A B
    simp only [hb]
  cases h3 : L.testBit 3 with
  | false =>
    rw [if_pos (hb.mpr h3), bc_eq, if_pos rfl]
    refine fin (-1) (fun b hb100 => ⟨fun z => ?_, fun z => ?_⟩)
    · exfalso
      have z2 := congrArg Int32.toInt z
      rw [nI_toInt (by omega)] at z2
      have : (-1 : Int32).toInt = -1 := by decide
      omega
    · rw [h3] at z
      cases z.2
  | true =>
    rw [if_neg (fun z => by rw [hb.mp z] at h3; cases h3), bc_eq, if_neg (by decide)]
    exact fin (nI fr) (fun b hb100 => ⟨fun z => ⟨(nI_eq (by omega) (by omega)).mp z, h3⟩, fun z => by rw [z.1]⟩)
end CS2
section CS3
variable {w : Wd} {v q c L m : Nat} {f : Nat → Int32}
theorem d_obeys {w : Wd} {v L : Nat} {b : Int32} (k : Nat) (hl : w.1 v 0 = nI L) (hb : (nI L &&& b) = 0 ↔ L.testBit k = false) : D_X1_obeys v b w = some (if L.testBit k = true then 1 else 0, w) := by
  unfold D_X1_obeys
  rw [hl]
  simp only [hb]
  cases L.testBit k <;> rfl
theorem d_isOf {w : Wd} {q c i m : Nat} (hc : w.1 q 2 = nI c) (h2 : 2 ≤ c) (h6 : c ≤ 6) (hi : i < 100) (hm : m ≤ 1) : D_X5_isOf q (nI i) (nI m) w = some (if i / c = m then 1 else 0, w) := by
  have hd : i / c = m ↔ m * c ≤ i ∧ i < (m + 1) * c := by
    rw [Nat.div_eq_iff (by omega)]
    constructor
    · rintro ⟨a, b⟩
      rw [Nat.add_mul]
      omega
    · rintro ⟨a, b⟩
      rw [Nat.add_mul] at b
      omega
  have hm1 : (m + 1) * c < 100 := by
    rcases (by omega : m = 0 ∨ m = 1) with h | h <;> subst h <;> omega
  have hm0 : m * c < 100 := by
    rcases (by omega : m = 0 ∨ m = 1) with h | h <;> subst h <;> omega
  unfold D_X5_isOf
  rw [hc, nI_1, pk_mul, pk_mul]
  simp only [nI_ltI (show i < 2 ^ 31 by omega) (show m * c < 2 ^ 31 by omega), nI_leI (show (m + 1) * c < 2 ^ 31 by omega) (show i < 2 ^ 31 by omega)]
  by_cases h1 : i < m * c
  · rw [if_pos h1, if_neg (fun z => by have := hd.mp z; omega)]
  · rw [if_neg h1]
    by_cases h3 : (m + 1) * c ≤ i
    · rw [if_pos h3, if_neg (fun z => by have := hd.mp z; omega)]
    · rw [if_neg h3, if_pos (hd.mpr ⟨by omega, by omega⟩)]
theorem loop_make {x8 : Int32} {k : Wd → Option (Int32 × Wd)} (hv : q + 2 < v) (hl : f 0 = nI L) (hs1 : f 1 = nI m) (h2 : 2 ≤ c) (h6 : c ≤ 6) (hL : L < 64) (hm : m ≤ 1) : ∀ (fu n a l : Nat) (P : Nat → Nat) (x : Int32), okPl c a → P 14 = m → tot P < 400000 → l ≤ 50 → 50 - l ≤ fu → fu + 1 < n → 1 ≤ l →
    (x = 0 ↔ ¬ (L.testBit 1 = true ∧ a ≠ 50 ∧ 1 < P a)) →
    L_X1_make_81 v q x8 k n x (nI l) (VW w v q c P (upd (upd f 6 (nI a)) 5 (nI l))) = k (VW w v q c (goS c L m fu a P l).2.1 (upd (upd f 6 (nI (goS c L m fu a P l).1)) 5 (nI (goS c L m fu a P l).2.2))) := by
  intro fu
  induction fu with
  | zero =>
    intro n a l P x ha hP ht hl50 hf hn h1 hx
    obtain ⟨n, rfl⟩ : ∃ n', n = n' + 1 := ⟨n - 1, by omega⟩
    unfold L_X1_make_81
    rw [n50, if_pos (nI_le (by omega) (by omega))]
    rfl
  | succ fu ih =>
    intro n a l P x ha hP ht hl50 hf hn h1 hx
    obtain ⟨n, rfl⟩ : ∃ n', n = n' + 1 := ⟨n - 1, by omega⟩
    unfold L_X1_make_81 goS
    rw [n50]
    simp only [nI_leI (show 50 < 2 ^ 31 by omega) (show l < 2 ^ 31 by omega)]
    by_cases h4 : 50 ≤ l
    · rw [if_pos h4, if_neg (fun z => by omega)]
    · rw [if_neg h4]
      by_cases hx0 : x = 0
      · rw [if_pos hx0, if_neg (fun z => hx.mp hx0 ⟨z.1, z.2.1, z.2.2.1⟩)]
      · have hx1 : L.testBit 1 = true ∧ a ≠ 50 ∧ 1 < P a := by
          by_cases z : L.testBit 1 = true ∧ a ≠ 50 ∧ 1 < P a
          · exact z
          · exact absurd (hx.mpr z) hx0
        have ha2 : a < 2 * c := by rcases ha with z | z; exact z; exact absurd z hx1.2.1
        rw [if_neg hx0, if_pos ⟨hx1.1, hx1.2.1, hx1.2.2, by omega⟩, VW_v, upd_ne (by decide), upd_self]
        have hsl := d_sowLap (w := w) (v := v) (q := q) (f := upd (upd f 6 (nI a)) 5 (nI l)) (P := P) (fr := a) hv (by rw [upd_ne (by decide), upd_ne (by decide), hl]) (by rw [upd_ne (by decide), upd_ne (by decide), hs1]) h2 h6 hL hm (by rw [upd_ne (by decide), upd_self]) ha2 (by omega) ht
        obtain ⟨j1, j2, j3⟩ := lapS_inv (L := L) (P := P) h2 h6 hm ha2
        have j1' : (lapS c L m a P).1 < 100 := by rcases j1 with z | z <;> omega
        have e : ∀ y : Nat, upd (upd (upd (upd f 6 (nI a)) 5 (nI l)) 6 (nI y)) 5 (nI (l + 1)) = upd (upd f 6 (nI y)) 5 (nI (l + 1)) := by
          intro y
          funext j
          by_cases a1 : j = 5 <;> by_cases a2 : j = 6 <;> simp [upd, a1, a2]
        have e5 : ∀ y : Nat, (upd (upd (upd f 6 (nI a)) 5 (nI l)) 6 (nI y)) 5 = nI l := by
          intro y
          rw [upd_ne (by decide), upd_self]
        have e0 : ∀ y : Nat, (upd (upd (upd f 6 (nI a)) 5 (nI l)) 6 (nI y)) 0 = nI L := by
          intro y
          rw [upd_ne (by decide), upd_ne (by decide), upd_ne (by decide), hl]
        rw [hsl, bc_eq]
        have next : ∀ y : Int32, (y = 0 ↔ ¬ (L.testBit 1 = true ∧ (lapS c L m a P).1 ≠ 50 ∧ 1 < (lapS c L m a P).2 (lapS c L m a P).1)) → J_X1_make_j118_2 (L_X1_make_81 v q x8 k n) v (nI l) y (VW w v q c (lapS c L m a P).2 (upd (upd (upd f 6 (nI a)) 5 (nI l)) 6 (nI (lapS c L m a P).1))) = k (VW w v q c (goS c L m fu (lapS c L m a P).1 (lapS c L m a P).2 (l + 1)).2.1 (upd (upd f 6 (nI (goS c L m fu (lapS c L m a P).1 (lapS c L m a P).2 (l + 1)).1)) 5 (nI (goS c L m fu (lapS c L m a P).1 (lapS c L m a P).2 (l + 1)).2.2))) := by
          intro y hy
          unfold J_X1_make_j118_2
          simp only [bd_eq]
          rw [VW_v, e5, nI_1, VW_wv, e]
          exact ih n _ (l + 1) _ y j1 (by rw [j3 14 (Nat.le_refl _), hP]) (by rw [j2]; exact ht) (by omega) (by omega) (by omega) (by omega) hy
        have hh : hadS (lapS c L m a P).1 (lapS c L m a P).2 = 0 ↔ ¬ ((lapS c L m a P).1 ≠ 50 ∧ 1 < (lapS c L m a P).2 (lapS c L m a P).1) := by
          unfold hadS
          by_cases z1 : (lapS c L m a P).1 = 50
          · rw [if_pos z1]
            exact ⟨fun _ z => z.1 z1, fun _ => rfl⟩
          · rw [if_neg z1]
            by_cases z2 : (lapS c L m a P).2 (lapS c L m a P).1 ≤ 1
            · rw [if_pos z2]
              exact ⟨fun _ z => by omega, fun _ => rfl⟩
            · rw [if_neg z2]
              exact ⟨fun z => absurd z (by decide), fun z => absurd ⟨z1, by omega⟩ z⟩
        simp only [bd_eq]
        unfold J_X1_make_j117_1
        by_cases z : hadS (lapS c L m a P).1 (lapS c L m a P).2 = 0
        · rw [if_pos z]
          exact next 0 ⟨fun _ y => hh.mp z ⟨y.2.1, y.2.2⟩, fun _ => rfl⟩
        · rw [if_neg z, d_obeys 1 (by rw [VW_v]; exact e0 _) (bit_1 L hL), bc_eq, if_pos hx1.1, if_neg (by decide)]
          exact next 1 ⟨fun y => absurd y (by decide), fun y => absurd (hh.mpr (fun u => y ⟨hx1.1, u.1, u.2⟩)) z⟩
end CS3
