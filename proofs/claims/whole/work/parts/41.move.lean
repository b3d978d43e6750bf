/-! the MOVE as numbers, and the reference's way to it -/
def lastS (c m : Nat) : Nat := if m = 0 then c - 1 else 2 * c - 1
def behS (c L m a : Nat) : Nat := if a = 50 then (lastS c m + 1) % (2 * c) else if a = lastS c m ∧ L.testBit 0 = true then 50 else (a + 1) % (2 * c)
def nxS (c L m f a : Nat) : Nat := if behS c L m a = f ∧ L.testBit 3 = true then behS c L m (behS c L m a) else behS c L m a
def plS (m a : Nat) : Nat := if a = 50 then 12 + m else a
def putS (m : Nat) (P : Nat → Nat) (a : Nat) : Nat → Nat := uN P (plS m a) (P (plS m a) + 1)
def sowS (c L m f : Nat) : Nat → Nat → (Nat → Nat) → Nat × (Nat → Nat)
  | 0, a, P => (a, P)
  | n + 1, a, P => sowS c L m f n (nxS c L m f a) (putS m P (nxS c L m f a))
def lapS (c L m f : Nat) (P : Nat → Nat) : Nat × (Nat → Nat) := sowS c L m f (P f) f (uN P f 0)
/-- the places of a board -/
def okPl (c a : Nat) : Prop := a < 2 * c ∨ a = 50
theorem behS_ok {c L m a : Nat} (hc : 2 ≤ c) : okPl c (behS c L m a) := by
  unfold behS okPl
  split
  · exact Or.inl (Nat.mod_lt _ (by omega))
  · split
    · exact Or.inr rfl
    · exact Or.inl (Nat.mod_lt _ (by omega))
theorem nxS_ok {c L m f a : Nat} (hc : 2 ≤ c) : okPl c (nxS c L m f a) := by
  unfold nxS
  split <;> exact behS_ok hc
theorem bit_0 : ∀ L, L < 64 → ((nI L &&& 1) = 0 ↔ L.testBit 0 = false) := by decide +kernel
theorem bit_1 : ∀ L, L < 64 → ((nI L &&& 2) = 0 ↔ L.testBit 1 = false) := by decide +kernel
theorem bit_2 : ∀ L, L < 64 → ((nI L &&& 4) = 0 ↔ L.testBit 2 = false) := by decide +kernel
theorem bit_3 : ∀ L, L < 64 → ((nI L &&& 8) = 0 ↔ L.testBit 3 = false) := by decide +kernel
theorem bit_4 : ∀ L, L < 64 → ((nI L &&& 16) = 0 ↔ L.testBit 4 = false) := by decide +kernel
theorem bit_5 : ∀ L, L < 64 → ((nI L &&& 32) = 0 ↔ L.testBit 5 = false) := by decide +kernel
theorem n50 : (50 : Int32) = nI 50 := by decide +kernel
theorem n12 : (12 : Int32) = nI 12 := by decide +kernel
theorem n14 : (14 : Int32) = nI 14 := by decide +kernel
theorem n15 : (15 : Int32) = nI 15 := by decide +kernel
theorem nI_is {a b : Nat} {x : Int32} (hx : x = nI b) (ha : a < 2 ^ 31) (hb : b < 2 ^ 31) : nI a = x ↔ a = b := by
  rw [hx]
  exact nI_eq ha hb
theorem upd_self {f : Nat → Int32} {k : Nat} {v : Int32} : upd f k v k = v := by simp [upd]
theorem upd_ne {f : Nat → Int32} {k j : Nat} {v : Int32} (h : j ≠ k) : upd f k v j = f j := by simp [upd, h]
theorem upd_upd {f : Nat → Int32} {k : Nat} {v u : Int32} : upd (upd f k v) k u = upd f k u := by
  funext j
  by_cases h : j = k <;> simp [upd, h]
theorem d_pits12 {w : Wd} {c : Nat} (hc : w.1 119 1 = nI c) : D_X12_pits w = some (nI (2 * c), w) := by
  unfold D_X12_pits
  rw [hc, nI_2', pk_mul]
theorem d_behind {w : Wd} {c L m a : Nat} (hc : w.1 119 1 = nI c) (hl : w.1 119 2 = nI L) (h2 : 2 ≤ c) (h6 : c ≤ 6) (hL : L < 64) (hm : m ≤ 1) (ha : okPl c a) : D_X12_behind (nI a) (nI m) w = some (nI (behS c L m a), w) := by
  have ha' : a < 100 := by rcases ha with h | h <;> omega
  have key : ∀ last, last = lastS c m → (if nI a = 50 then (bc (D_X12_pits w) fun x9 w8 => if ¬ (x9) = 0 then (some ((nI last + 1) - (nI last + 1) / x9 * x9, w8)) else none) else (bd (fun (w4 : Wd) => bc (D_X12_pits w4) fun x7 w6 => if ¬ (x7) = 0 then (some ((nI a + 1) - (nI a + 1) / x7 * x7, w6)) else none) fun k5 => if nI a = nI last then (if ((w.1 119 2) &&& 1) = 0 then (k5 w) else (some (50, w))) else (k5 w))) = some (nI (behS c L m a), w) := by
    intro last hlast
    have hl2 : last < 100 := by rw [hlast]; unfold lastS; split <;> omega
    have hz : ¬ nI (2 * c) = 0 := by rw [nI_z (by omega)]; omega
    simp only [d_pits12 hc, bc_eq, bd_eq, if_pos hz, nI_1, hl]
    rw [pk_rem (by omega) (by omega) (by omega), pk_rem (by omega) (by omega) (by omega)]
    simp only [nI_is n50 (show a < 2 ^ 31 by omega) (by omega), nI_eq (show a < 2 ^ 31 by omega) (show last < 2 ^ 31 by omega), bit_0 L hL]
    unfold behS
    rw [← hlast]
    by_cases h1 : a = 50
    · rw [if_pos h1, if_pos h1]
    · rw [if_neg h1, if_neg h1]
      by_cases h3 : a = last
      · rw [if_pos h3]
        cases h4 : L.testBit 0 with
        | false => simp
        | true => simp [h3, n50]
      · rw [if_neg h3, if_neg (fun z => h3 z.1)]
  unfold D_X12_behind J_X12_behind_j19_2 J_X12_behind_j54_1
  rw [bd_eq, hc]
  rcases (by omega : m = 0 ∨ m = 1) with h | h
  · subst h
    rw [if_pos (by rfl), nI_1', pk_sub (by omega)]
    exact key _ (by simp [lastS])
  · subst h
    rw [if_neg (by rw [nI_z (by omega)]; omega), d_pits12 hc, bc_eq, nI_1', pk_sub (by omega)]
    exact key _ (by simp [lastS])
/-- rows of the reference's object and of one array -/
def W2 (w : Wd) (a : Nat) (f g : Nat → Int32) : Wd := wR (wR w a f) 119 g
theorem W2_a {w : Wd} {a : Nat} {f g : Nat → Int32} (ha : a ≠ 119) : (W2 w a f g).1 a = f := by
  unfold W2
  rw [wR_ne ha, wR_self]
theorem W2_M {w : Wd} {a : Nat} {f g : Nat → Int32} : (W2 w a f g).1 119 = g := wR_self _ _ _
theorem W2_ne {w : Wd} {a j : Nat} {f g : Nat → Int32} (h : j ≠ a) (h2 : j ≠ 119) : (W2 w a f g).1 j = w.1 j := by
  unfold W2
  rw [wR_ne h2, wR_ne h]
theorem W2_2 {w : Wd} {a : Nat} {f g : Nat → Int32} : (W2 w a f g).2 = w.2 := rfl
theorem W2_wa {w : Wd} {a k : Nat} {f g : Nat → Int32} {v : Int32} (ha : a ≠ 119) : wI (W2 w a f g) a k v = W2 w a (upd f k v) g := by
  rw [wI_wR, W2_a ha]
  unfold W2
  rw [wR_comm (fun h => ha h.symm), wR_wR]
theorem W2_wM {w : Wd} {a k : Nat} {f g : Nat → Int32} {v : Int32} : wI (W2 w a f g) 119 k v = W2 w a f (upd g k v) := by
  rw [wI_wR, W2_M]
  unfold W2
  rw [wR_wR]
theorem W2_id {w : Wd} {a : Nat} (ha : a ≠ 119) : W2 w a (w.1 a) (w.1 119) = w := by
  unfold W2
  rw [wR_id, wR_id]
theorem behS_ne {c L m f : Nat} (hc : 2 ≤ c) (hf : f < 2 * c) (h6 : c ≤ 6) : behS c L m f ≠ f := by
  unfold behS
  rw [if_neg (by omega)]
  split
  · omega
  · rcases (by omega : f + 1 < 2 * c ∨ f + 1 = 2 * c) with h | h
    · rw [Nat.mod_eq_of_lt h]; omega
    · rw [h, Nat.mod_self]; omega
section ML
variable {w : Wd} {a c L m fr : Nat} {g0 : Nat → Int32} {k : Wd → Option Wd}
theorem goLap_step (ha : a ≠ 119) (hla : ln a = 16) (hc : g0 1 = nI c) (hl : g0 2 = nI L) (h2 : 2 ≤ c) (h6 : c ≤ 6) (hL : L < 64) (hm : m ≤ 1) (hfr : fr < 2 * c) {n s q : Nat} {P : Nat → Nat} (hq : okPl c q) (hs : s < 500000) (hne : ¬ (behS c L m q = fr ∧ L.testBit 3 = true)) :
    L_X12_goLap_19 a (nI fr) (nI m) k (n + 1) (nI (s + 1)) (W2 w a (eP P) (upd g0 21 (nI q))) = L_X12_goLap_19 a (nI fr) (nI m) k n (nI s) (W2 w a (eP (putS m P (behS c L m q))) (upd g0 21 (nI (behS c L m q)))) := by
  have hb := d_behind (w := W2 w a (eP P) (upd g0 21 (nI q))) (c := c) (L := L) (m := m) (a := q) (by rw [W2_M, upd_ne (by decide), hc]) (by rw [W2_M, upd_ne (by decide), hl]) h2 h6 hL hm hq
  have hq' : okPl c (behS c L m q) := behS_ok h2
  conv => lhs; unfold L_X12_goLap_19
  rw [if_neg (nI_nle (by omega) (by omega)), W2_M, upd_self, hb, bc_eq, W2_wM, upd_upd]
  generalize behS c L m q = b at hq' hne ⊢
  have hb100 : b < 100 := by rcases hq' with h | h <;> omega
  simp only [J_X12_goLap_j58_2, J_X12_goLap_j90_1, bd_eq, W2_M, upd_self, upd_ne (show (2 : Nat) ≠ 21 by decide), hl, bit_3 L hL, nI_eq (show b < 2 ^ 31 by omega) (show fr < 2 ^ 31 by omega), W2_a ha, nI_is n50 (show b < 2 ^ 31 by omega) (show 50 < 2 ^ 31 by omega)]
  have hput : (if b = 50 then (if ib (12 + nI m) (ln a) = true then if ib (12 + nI m) (ln a) = true then L_X12_goLap_19 a (nI fr) (nI m) k n (nI (s + 1) + (-1)) (wI (W2 w a (eP P) (upd g0 21 (nI b))) a (12 + nI m).toNatClampNeg (eP P (12 + nI m).toNatClampNeg + 1)) else none else none) else (if ib (nI b) (ln a) = true then if ib (nI b) (ln a) = true then L_X12_goLap_19 a (nI fr) (nI m) k n (nI (s + 1) + (-1)) (wI (W2 w a (eP P) (upd g0 21 (nI b))) a (nI b).toNatClampNeg (eP P (nI b).toNatClampNeg + 1)) else none else none)) = L_X12_goLap_19 a (nI fr) (nI m) k n (nI s) (W2 w a (eP (putS m P b)) (upd g0 21 (nI b))) := by
    rw [n12, nI_add, hla, pk_m1, W2_wa ha, W2_wa ha]
    by_cases h50 : b = 50
    · rw [if_pos h50, if_pos (ib_nI (by omega) (by omega)), if_pos (ib_nI (by omega) (by omega)), nI_clamp (by omega), eP_at, nI_1, upd_eP]
      unfold putS plS
      rw [if_pos h50]
    · have hb12 : b < 12 := by rcases hq' with h | h <;> omega
      rw [if_neg h50, if_pos (ib_nI (by omega) (by omega)), if_pos (ib_nI (by omega) (by omega)), nI_clamp (by omega), eP_at, nI_1, upd_eP]
      unfold putS plS
      rw [if_neg h50]
  by_cases h1 : b = fr
  · rw [if_pos h1]
    cases h3 : L.testBit 3 with
    | true => exact absurd ⟨h1, h3⟩ hne
    | false =>
      rw [if_pos rfl]
      exact hput
  · rw [if_neg h1]
    exact hput
theorem goLap_skip (hc : g0 1 = nI c) (hl : g0 2 = nI L) (h2 : 2 ≤ c) (h6 : c ≤ 6) (hL : L < 64) (hm : m ≤ 1) (hfr : fr < 2 * c) {n s q : Nat} {P : Nat → Nat} (hq : okPl c q) (hs : s < 500000) (hne : behS c L m q = fr ∧ L.testBit 3 = true) :
    L_X12_goLap_19 a (nI fr) (nI m) k (n + 1) (nI (s + 1)) (W2 w a (eP P) (upd g0 21 (nI q))) = L_X12_goLap_19 a (nI fr) (nI m) k n (nI (s + 1)) (W2 w a (eP P) (upd g0 21 (nI fr))) := by
  have hb := d_behind (w := W2 w a (eP P) (upd g0 21 (nI q))) (c := c) (L := L) (m := m) (a := q) (by rw [W2_M, upd_ne (by decide), hc]) (by rw [W2_M, upd_ne (by decide), hl]) h2 h6 hL hm hq
  conv => lhs; unfold L_X12_goLap_19
  rw [if_neg (nI_nle (by omega) (by omega)), W2_M, upd_self, hb, bc_eq, W2_wM, upd_upd, hne.1]
  simp only [bd_eq, W2_M, upd_self, upd_ne (show (2 : Nat) ≠ 21 by decide), hl, bit_3 L hL, hne.2]
  simp
theorem loop_goLap (ha : a ≠ 119) (hla : ln a = 16) (hc : g0 1 = nI c) (hl : g0 2 = nI L) (h2 : 2 ≤ c) (h6 : c ≤ 6) (hL : L < 64) (hm : m ≤ 1) (hfr : fr < 2 * c) : ∀ (s n q : Nat) (P : Nat → Nat), okPl c q → s < 500000 → 2 * s < n →
    L_X12_goLap_19 a (nI fr) (nI m) k n (nI s) (W2 w a (eP P) (upd g0 21 (nI q))) = k (W2 w a (eP (sowS c L m fr s q P).2) (upd g0 21 (nI (sowS c L m fr s q P).1))) := by
  intro s
  induction s with
  | zero =>
    intro n q P hq hs hn
    obtain ⟨n, rfl⟩ : ∃ n', n = n' + 1 := ⟨n - 1, by omega⟩
    unfold L_X12_goLap_19
    rw [if_pos ((nI_le0 (by omega)).mpr rfl)]
    rfl
  | succ s ih =>
    intro n q P hq hs hn
    obtain ⟨n, rfl⟩ : ∃ n', n = n' + 2 := ⟨n - 2, by omega⟩
    by_cases h : behS c L m q = fr ∧ L.testBit 3 = true
    · rw [goLap_skip hc hl h2 h6 hL hm hfr hq (by omega) h, goLap_step ha hla hc hl h2 h6 hL hm hfr (Or.inl hfr) (by omega) (fun z => behS_ne h2 hfr h6 z.1), ih n _ _ (behS_ok h2) (by omega) (by omega)]
      have e : nxS c L m fr q = behS c L m fr := by
        unfold nxS
        rw [if_pos h, h.1]
      show _ = k (W2 w a (eP (sowS c L m fr s (nxS c L m fr q) (putS m P (nxS c L m fr q))).2) (upd g0 21 (nI (sowS c L m fr s (nxS c L m fr q) (putS m P (nxS c L m fr q))).1)))
      rw [e]
    · rw [goLap_step ha hla hc hl h2 h6 hL hm hfr hq (by omega) h, ih (n + 1) _ _ (behS_ok h2) (by omega) (by omega)]
      have e : nxS c L m fr q = behS c L m q := by
        unfold nxS
        rw [if_neg h]
      show _ = k (W2 w a (eP (sowS c L m fr s (nxS c L m fr q) (putS m P (nxS c L m fr q))).2) (upd g0 21 (nI (sowS c L m fr s (nxS c L m fr q) (putS m P (nxS c L m fr q))).1)))
      rw [e]
theorem d_goLap (ha : a ≠ 119) (hla : ln a = 16) (hc : g0 1 = nI c) (hl : g0 2 = nI L) (h2 : 2 ≤ c) (h6 : c ≤ 6) (hL : L < 64) (hm : m ≤ 1) (hfr : fr < 2 * c) {P : Nat → Nat} {l : Nat} (hP : P 14 = m) (hn : P fr < 400000) (hg : g0 20 = nI l) :
    D_X12_goLap a (nI fr) (W2 w a (eP P) g0) = some (W2 w a (eP (lapS c L m fr P).2) (upd (upd g0 21 (nI (lapS c L m fr P).1)) 20 (nI (l + 1)))) := by
  unfold D_X12_goLap
  rw [hla, if_pos (by decide), bd_eq, W2_a ha]
  simp only [bd_eq, W2_a ha, if_pos (ib_nI (show fr < 16 by omega) (by omega)), nI_clamp (show fr < 2 ^ 31 by omega), eP_at, show (14 : Int32).toNatClampNeg = 14 from by decide, hP, W2_wa ha, W2_wM]
  rw [nI_0', upd_eP]
  have e := loop_goLap (w := w) (a := a) (k := J_X12_goLap_x96_3) ha hla hc hl h2 h6 hL hm hfr (P fr) FU fr (uN P fr 0) (Or.inl hfr) (by omega) (by unfold FU; omega)
  rw [e]
  unfold J_X12_goLap_x96_3
  rw [bd_eq, W2_M, upd_ne (by decide), hg, nI_1, W2_wM]
  rfl
end ML
/-- all SEEDS -/
def tot (P : Nat → Nat) : Nat := sumS P 0 14
theorem sumS_out {P : Nat → Nat} {b k v : Nat} : ∀ n, (k < b ∨ b + n ≤ k) → sumS (uN P k v) b n = sumS P b n := by
  intro n
  induction n with
  | zero => intro _; rfl
  | succ n ih =>
    intro h
    show sumS (uN P k v) b n + uN P k v (b + n) = sumS P b n + P (b + n)
    rw [ih (by omega), uN_ne (by omega)]
theorem sumS_in {P : Nat → Nat} {b k v : Nat} : ∀ n, b ≤ k → k < b + n → sumS (uN P k v) b n + P k = sumS P b n + v := by
  intro n
  induction n with
  | zero => intro h1 h2; omega
  | succ n ih =>
    intro h1 h2
    show sumS (uN P k v) b n + uN P k v (b + n) + P k = sumS P b n + P (b + n) + v
    by_cases h : k = b + n
    · subst h
      rw [sumS_out n (Or.inr (Nat.le_refl _)), uN_self]
      omega
    · rw [uN_ne (fun z => h z.symm)]
      have := ih h1 (by omega)
      omega
theorem sumS_le {P : Nat → Nat} {b k : Nat} : ∀ n, b ≤ k → k < b + n → P k ≤ sumS P b n := by
  intro n
  induction n with
  | zero => intro h1 h2; omega
  | succ n ih =>
    intro h1 h2
    show P k ≤ sumS P b n + P (b + n)
    by_cases h : k = b + n
    · subst h; omega
    · have := ih h1 (by omega)
      omega
theorem le_tot {P : Nat → Nat} {i : Nat} (h : i < 14) : P i ≤ tot P := sumS_le 14 (Nat.zero_le _) (by omega)
theorem tot_uN {P : Nat → Nat} {k v : Nat} (h : k < 14) : tot (uN P k v) + P k = tot P + v := sumS_in 14 (Nat.zero_le _) (by omega)
theorem tot_uN' {P : Nat → Nat} {k v : Nat} (h : 14 ≤ k) : tot (uN P k v) = tot P := sumS_out 14 (Or.inr (by omega))
theorem plS_lt {c m a : Nat} (h6 : c ≤ 6) (hm : m ≤ 1) (ha : okPl c a) : plS m a < 14 := by
  unfold plS
  rcases ha with h | h
  · rw [if_neg (by omega)]; omega
  · rw [if_pos h]; omega
theorem putS_tot {c m a : Nat} {P : Nat → Nat} (h6 : c ≤ 6) (hm : m ≤ 1) (ha : okPl c a) : tot (putS m P a) = tot P + 1 := by
  unfold putS
  have := tot_uN (P := P) (k := plS m a) (v := P (plS m a) + 1) (plS_lt h6 hm ha)
  omega
theorem putS_hi {c m a j : Nat} {P : Nat → Nat} (h6 : c ≤ 6) (hm : m ≤ 1) (ha : okPl c a) (hj : 14 ≤ j) : putS m P a j = P j := by
  unfold putS
  have := plS_lt h6 hm ha
  rw [uN_ne (by omega)]
theorem sowS_inv {c L m f : Nat} (h2 : 2 ≤ c) (h6 : c ≤ 6) (hm : m ≤ 1) : ∀ (s q : Nat) (P : Nat → Nat), okPl c q → okPl c (sowS c L m f s q P).1 ∧ tot (sowS c L m f s q P).2 = tot P + s ∧ ∀ j, 14 ≤ j → (sowS c L m f s q P).2 j = P j := by
  intro s
  induction s with
  | zero => intro q P hq; exact ⟨hq, rfl, fun _ _ => rfl⟩
  | succ s ih =>
    intro q P hq
    have hn : okPl c (nxS c L m f q) := nxS_ok h2
    obtain ⟨i1, i2, i3⟩ := ih (nxS c L m f q) (putS m P (nxS c L m f q)) hn
    refine ⟨i1, ?_, fun j hj => ?_⟩
    · show tot (sowS c L m f s (nxS c L m f q) (putS m P (nxS c L m f q))).2 = _
      rw [i2, putS_tot h6 hm hn]
      omega
    · show (sowS c L m f s (nxS c L m f q) (putS m P (nxS c L m f q))).2 j = _
      rw [i3 j hj, putS_hi h6 hm hn hj]
theorem lapS_inv {c L m f : Nat} {P : Nat → Nat} (h2 : 2 ≤ c) (h6 : c ≤ 6) (hm : m ≤ 1) (hf : f < 2 * c) : okPl c (lapS c L m f P).1 ∧ tot (lapS c L m f P).2 = tot P ∧ ∀ j, 14 ≤ j → (lapS c L m f P).2 j = P j := by
  obtain ⟨i1, i2, i3⟩ := sowS_inv (L := L) (f := f) h2 h6 hm (P f) f (uN P f 0) (Or.inl hf)
  refine ⟨i1, ?_, fun j hj => ?_⟩
  · show tot (sowS c L m f (P f) f (uN P f 0)).2 = _
    rw [i2]
    have := tot_uN (P := P) (k := f) (v := 0) (by omega)
    omega
  · show (sowS c L m f (P f) f (uN P f 0)).2 j = _
    rw [i3 j hj, uN_ne (by omega)]
/-- laps one behind the other -/
def goS (c L m : Nat) : Nat → Nat → (Nat → Nat) → Nat → Nat × (Nat → Nat) × Nat
  | 0, q, P, l => (q, P, l)
  | n + 1, q, P, l => if L.testBit 1 = true ∧ q ≠ 50 ∧ 1 < P q ∧ l < 50 then goS c L m n (lapS c L m q P).1 (lapS c L m q P).2 (l + 1) else (q, P, l)
theorem goS_inv {c L m : Nat} (h2 : 2 ≤ c) (h6 : c ≤ 6) (hm : m ≤ 1) : ∀ (n q : Nat) (P : Nat → Nat) (l : Nat), okPl c q → l ≤ 50 → okPl c (goS c L m n q P l).1 ∧ tot (goS c L m n q P l).2.1 = tot P ∧ (∀ j, 14 ≤ j → (goS c L m n q P l).2.1 j = P j) ∧ (goS c L m n q P l).2.2 ≤ 50 := by
  intro n
  induction n with
  | zero => intro q P l hq hl; exact ⟨hq, rfl, fun _ _ => rfl, hl⟩
  | succ n ih =>
    intro q P l hq hl
    unfold goS
    by_cases h : L.testBit 1 = true ∧ q ≠ 50 ∧ 1 < P q ∧ l < 50
    · rw [if_pos h]
      have hq2 : q < 2 * c := by rcases hq with z | z; exact z; exact absurd z h.2.1
      obtain ⟨j1, j2, j3⟩ := lapS_inv (L := L) (P := P) h2 h6 hm hq2
      obtain ⟨i1, i2, i3, i4⟩ := ih _ (lapS c L m q P).2 (l + 1) j1 (by omega)
      exact ⟨i1, i2.trans j2, fun j hj => (i3 j hj).trans (j3 j hj), i4⟩
    · rw [if_neg h]
      exact ⟨hq, rfl, fun _ _ => rfl, hl⟩
/-- SEEDS of a PIT come to a STORE -/
def takeS (m : Nat) (P : Nat → Nat) (i : Nat) : Nat → Nat := uN (uN P (12 + m) (P (12 + m) + P i)) i 0
def capCS (c L m q : Nat) (P : Nat → Nat) : Nat → Nat := if q ≠ 50 ∧ L.testBit 2 = true ∧ q / c = m ∧ P q = 1 ∧ P (2 * c - 1 - q) ≠ 0 then takeS m (takeS m P q) (2 * c - 1 - q) else P
def capT (c m : Nat) : Nat → (Nat → Nat) → (Nat → Nat)
  | 0, P => P
  | i + 1, P => if ¬ i / c = m ∧ 2 ≤ P i ∧ P i ≤ 3 then capT c m i (takeS m P i) else P
def capTS (c L m q : Nat) (P : Nat → Nat) : Nat → Nat := if q ≠ 50 ∧ L.testBit 5 = true then capT c m (q + 1) P else P
def endS (L m q : Nat) (P : Nat → Nat) : Nat → Nat := uN (if q = 50 ∧ L.testBit 4 = true then P else uN P 14 (1 - m)) 15 (P 15 + 1)
theorem takeS_tot {m i : Nat} {P : Nat → Nat} (hm : m ≤ 1) (hi : i < 12) : tot (takeS m P i) = tot P := by
  unfold takeS
  have h1 := tot_uN (P := uN P (12 + m) (P (12 + m) + P i)) (k := i) (v := 0) (by omega)
  have h2 := tot_uN (P := P) (k := 12 + m) (v := P (12 + m) + P i) (by omega)
  rw [uN_ne (by omega)] at h1
  omega
theorem takeS_hi {m i j : Nat} {P : Nat → Nat} (hm : m ≤ 1) (hi : i < 12) (hj : 14 ≤ j) : takeS m P i j = P j := by
  unfold takeS
  rw [uN_ne (by omega), uN_ne (by omega)]
theorem capCS_inv {c L m q : Nat} {P : Nat → Nat} (h2 : 2 ≤ c) (h6 : c ≤ 6) (hm : m ≤ 1) (hq : okPl c q) : tot (capCS c L m q P) = tot P ∧ ∀ j, 14 ≤ j → capCS c L m q P j = P j := by
  unfold capCS
  split
  next h =>
    have hq2 : q < 2 * c := by rcases hq with z | z; exact z; exact absurd z h.1
    exact ⟨by rw [takeS_tot hm (by omega), takeS_tot hm (by omega)], fun j hj => by rw [takeS_hi hm (by omega) hj, takeS_hi hm (by omega) hj]⟩
  next => exact ⟨rfl, fun _ _ => rfl⟩
theorem capT_inv {c m : Nat} (hm : m ≤ 1) : ∀ (i : Nat) (P : Nat → Nat), i ≤ 12 → tot (capT c m i P) = tot P ∧ ∀ j, 14 ≤ j → capT c m i P j = P j := by
  intro i
  induction i with
  | zero => intro P _; exact ⟨rfl, fun _ _ => rfl⟩
  | succ i ih =>
    intro P hi
    unfold capT
    split
    · obtain ⟨i1, i2⟩ := ih (takeS m P i) (by omega)
      exact ⟨i1.trans (takeS_tot hm (by omega)), fun j hj => (i2 j hj).trans (takeS_hi hm (by omega) hj)⟩
    · exact ⟨rfl, fun _ _ => rfl⟩
theorem capTS_inv {c L m q : Nat} {P : Nat → Nat} (h6 : c ≤ 6) (hm : m ≤ 1) (hq : okPl c q) : tot (capTS c L m q P) = tot P ∧ ∀ j, 14 ≤ j → capTS c L m q P j = P j := by
  unfold capTS
  split
  next h =>
    have hq2 : q < 2 * c := by rcases hq with z | z; exact z; exact absurd z h.1
    exact capT_inv hm _ _ (by omega)
  next => exact ⟨rfl, fun _ _ => rfl⟩
/-- the MOVE: the place, the board, the LAPS -/
def mv1 (c L m p : Nat) (P : Nat → Nat) : Nat × (Nat → Nat) × Nat := goS c L m 50 (lapS c L m (m * c + p) P).1 (lapS c L m (m * c + p) P).2 1
def mvB (c L m p : Nat) (P : Nat → Nat) : Nat → Nat := capTS c L m (mv1 c L m p P).1 (capCS c L m (mv1 c L m p P).1 (mv1 c L m p P).2.1)
def mvP (c L m p : Nat) (P : Nat → Nat) : Nat → Nat := endS L m (mv1 c L m p P).1 (mvB c L m p P)
