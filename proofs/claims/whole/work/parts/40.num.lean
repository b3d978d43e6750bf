/-! numbers and rows of the world, for the plain functions -/
theorem bd_eq {α β : Type} (a : α) (f : α → β) : bd a f = f a := rfl
theorem bc_eq {α β γ : Type} (a : α) (b : β) (f : α → β → Option γ) : bc (some (a, b)) f = f a b := rfl
theorem bv_eq {α γ : Type} (a : α) (f : α → Option γ) : bv (some a) f = f a := rfl
theorem ib_nI {i n : Nat} (h : i < n) (hn : n < 2 ^ 31) : ib (nI i) n = true := by
  simp only [ib, Bool.and_eq_true, decide_eq_true_eq]
  exact ⟨nI_pos' (by omega), by rw [nI_clamp (by omega)]; exact h⟩
/-- a row is laid anew -/
def wR (w : Wd) (i : Nat) (f : Nat → Int32) : Wd := (fun a => if a = i then f else w.1 a, w.2)
theorem wR_self (w : Wd) (i : Nat) (f : Nat → Int32) : (wR w i f).1 i = f := by simp [wR]
theorem wR_ne {w : Wd} {i j : Nat} {f : Nat → Int32} (h : j ≠ i) : (wR w i f).1 j = w.1 j := by simp [wR, h]
theorem wR_2 (w : Wd) (i : Nat) (f : Nat → Int32) : (wR w i f).2 = w.2 := rfl
theorem wI_wR (w : Wd) (i k : Nat) (v : Int32) : wI w i k v = wR w i (upd (w.1 i) k v) := by
  unfold wI wR
  congr 1
  funext a b
  by_cases h : a = i
  · subst h
    simp [upd]
  · simp [h]
theorem wR_wR (w : Wd) (i : Nat) (f g : Nat → Int32) : wR (wR w i f) i g = wR w i g := by
  unfold wR
  congr 1
  funext a
  by_cases h : a = i <;> simp [h]
theorem wR_comm {w : Wd} {i j : Nat} {f g : Nat → Int32} (h : i ≠ j) : wR (wR w i f) j g = wR (wR w j g) i f := by
  unfold wR
  congr 1
  funext a
  by_cases h1 : a = i
  · subst h1
    simp [h]
  · simp [h1]
theorem wR_id (w : Wd) (i : Nat) : wR w i (w.1 i) = w := by
  unfold wR
  apply Prod.ext
  · funext a
    by_cases h : a = i
    · subst h
      simp
    · simp [h]
  · rfl
/-- rows of numbers -/
def eP (P : Nat → Nat) : Nat → Int32 := fun k => nI (P k)
def uN (P : Nat → Nat) (k v : Nat) : Nat → Nat := fun j => if j = k then v else P j
theorem eP_at (P : Nat → Nat) (k : Nat) : eP P k = nI (P k) := rfl
theorem upd_eP (P : Nat → Nat) (k v : Nat) : upd (eP P) k (nI v) = eP (uN P k v) := by
  funext j
  by_cases h : j = k <;> simp [upd, eP, uN, h]
theorem uN_self (P : Nat → Nat) (k v : Nat) : uN P k v k = v := by simp [uN]
theorem uN_ne {P : Nat → Nat} {k v j : Nat} (h : j ≠ k) : uN P k v j = P j := by simp [uN, h]
def sumS (S : Nat → Nat) (b : Nat) : Nat → Nat
  | 0 => 0
  | n + 1 => sumS S b n + S (b + n)
theorem nI_0' : (0 : Int32) = nI 0 := nI_0.symm
theorem nI_1' : (1 : Int32) = nI 1 := by decide +kernel
theorem nI_2' : (2 : Int32) = nI 2 := by decide +kernel
theorem nI_z {a : Nat} (ha : a < 2 ^ 31) : nI a = 0 ↔ a = 0 := by
  rw [nI_0']
  exact nI_eq ha (by omega)
theorem nI_le0 {a : Nat} (ha : a < 2 ^ 31) : nI a ≤ 0 ↔ a = 0 := by
  rw [nI_0', nI_leI ha (by omega)]
  omega
theorem nI_lt0 {a : Nat} (ha : a < 2 ^ 31) : ¬ nI a < 0 := nI_pos ha
theorem loop_inPits {q b c : Nat} {S : Nat → Nat} {k : Int32 → Wd → Option (Int32 × Wd)} {w : Wd} (hc : w.1 q 2 = nI c) (hs : ∀ i, i < 12 → w.1 (q + 1) i = nI (S i)) (hb : b + c ≤ 12) : ∀ (m p n : Nat), p + m = c → m < n → L_X5_inPitsOf_12 q (nI b) k n (nI (sumS S b p)) (nI p) w = k (nI (sumS S b c)) w := by
  intro m
  induction m with
  | zero =>
    intro p n hp hn
    obtain ⟨n, rfl⟩ : ∃ n', n = n' + 1 := ⟨n - 1, by omega⟩
    have : p = c := by omega
    subst this
    unfold L_X5_inPitsOf_12
    rw [hc, if_pos (nI_le (Nat.le_refl _) (by omega))]
  | succ m ih =>
    intro p n hp hn
    obtain ⟨n, rfl⟩ : ∃ n', n = n' + 1 := ⟨n - 1, by omega⟩
    unfold L_X5_inPitsOf_12
    rw [hc, if_neg (nI_ge (by omega) (by omega)), nI_add, if_pos (ib_nI (by omega) (by omega)), bd_eq, bd_eq, nI_clamp (by omega), hs _ (by omega), nI_add, nI_1]
    exact ih (p + 1) n (by omega) (by omega)
theorem d_inPitsOf {q c m : Nat} {S : Nat → Nat} {w : Wd} (hc : w.1 q 2 = nI c) (hs : ∀ i, i < 12 → w.1 (q + 1) i = nI (S i)) (h6 : c ≤ 6) (hm : m ≤ 1) : D_X5_inPitsOf q (nI m) w = some (nI (sumS S (m * c) c), w) := by
  have hb : m * c + c ≤ 12 := by
    rcases (by omega : m = 0 ∨ m = 1) with h | h <;> subst h <;> omega
  unfold D_X5_inPitsOf
  rw [bd_eq, hc, pk_mul]
  have e := loop_inPits (k := J_X5_inPitsOf_x39_1) hc hs hb c 0 FU (by omega) (by unfold FU; omega)
  rw [nI_0', show nI 0 = nI (sumS S (m * c) 0) from rfl]
  rw [show nI (sumS S (m * c) 0) = nI 0 from rfl] at e
  exact e
