/-! the class's reading of a rule, sign by sign, as a plain machine -/
abbrev RS : Type := Bool × Nat × Nat × (Nat → Bool) × List Nat × List Int32
def str (x : Nat) : Nat := if x = 42 then 3 else if x = 43 then 2 else if x = 45 then 2 else if x = 47 then 3 else if x = 60 then 1 else if x = 61 then 1 else if x = 62 then 1 else if x = 256 then 4 else 0
def ng (a : Nat) : Int32 := -(nI a)
def flush (s : Nat) : List Nat → List Int32 → List Nat × List Int32
  | [], O => ([], O)
  | a :: W, O => if s ≤ str a then flush s W (O ++ [ng a]) else (a :: W, O)
def addD (O : List Int32) (x : Nat) : List Int32 := O.dropLast ++ [O.getLast?.getD 0 * 10 + nI x]
def setB (cm : Nat → Bool) (k : Nat) (b : Bool) : Nat → Bool := fun j => if j = k then b else cm j
def acc (r : RS) (x : Nat) : Option RS :=
  if 48 ≤ x ∧ x ≤ 57 then
    (if r.1 = true then some (false, 1, r.2.2.1, r.2.2.2.1, r.2.2.2.2.1, r.2.2.2.2.2 ++ [nI (x - 48)])
     else if r.2.1 = 0 ∨ r.2.1 = 3 then none else some (false, r.2.1 + 1, r.2.2.1, r.2.2.2.1, r.2.2.2.2.1, addD r.2.2.2.2.2 (x - 48)))
  else if r.1 = true then
    (if x = 45 then some (true, 0, r.2.2.1, r.2.2.2.1, 256 :: r.2.2.2.2.1, r.2.2.2.2.2)
     else if x = 40 ∧ r.2.2.1 < 4 then some (true, 0, r.2.2.1 + 1, setB r.2.2.2.1 (r.2.2.1 + 1) false, 40 :: r.2.2.2.2.1, r.2.2.2.2.2)
     else if lof x = 7 then none else some (false, 0, r.2.2.1, r.2.2.2.1, r.2.2.2.2.1, r.2.2.2.2.2 ++ [ng x]))
  else
    (if x = 41 ∧ 0 < r.2.2.1 then some (false, 0, r.2.2.1 - 1, r.2.2.2.1, (flush 1 r.2.2.2.2.1 r.2.2.2.2.2).1.tail, (flush 1 r.2.2.2.2.1 r.2.2.2.2.2).2)
     else if str x = 0 then none else if str x = 1 ∧ r.2.2.2.1 r.2.2.1 = true then none
     else some (true, 0, r.2.2.1, (if str x = 1 then setB r.2.2.2.1 r.2.2.1 true else r.2.2.2.1), x :: (flush (str x) r.2.2.2.2.1 r.2.2.2.2.2).1, (flush (str x) r.2.2.2.2.1 r.2.2.2.2.2).2))
/-- the machine's state before sign i -/
def cl (S : List Nat) : Nat → Option RS
  | 0 => some (true, 0, 0, fun _ => false, [], [])
  | i + 1 => match cl S i with
    | none => none
    | some r => if i < 40 then (match S[i]? with | some x => acc r x | none => none) else none
def ch (S : List Nat) (i : Nat) : Nat := if i < 40 then (S[i]?).getD 300 else 300
/-- the reading finds its first wrong sign at q -/
def flS (S : List Nat) (q : Nat) : Prop := ∃ r, cl S q = some r ∧ ((q < S.length ∧ (q = 40 ∨ ∃ x, S[q]? = some x ∧ acc r x = none)) ∨ (q = S.length ∧ (r.1 = true ∨ 0 < r.2.2.1)))
theorem cl_le {S : List Nat} {i : Nat} {r : RS} (h : cl S i = some r) : i ≤ S.length ∧ i ≤ 40 := by
  cases i with
  | zero => exact ⟨Nat.zero_le _, Nat.zero_le _⟩
  | succ i =>
    unfold cl at h
    split at h
    · exact absurd h (by simp)
    · split at h
      · split at h
        · rename_i e
          have := (List.getElem?_eq_some_iff.mp e).1
          omega
        · exact absurd h (by simp)
      · exact absurd h (by simp)
theorem ch_at {S : List Nat} {i x : Nat} (h : ch S i = x) (hx : x ≠ 300) : i < 40 ∧ S[i]? = some x := by
  unfold ch at h
  by_cases hi : i < 40
  · rw [if_pos hi] at h
    cases e : S[i]? with
    | none => rw [e] at h; exact absurd h.symm hx
    | some y => rw [e] at h; exact ⟨hi, congrArg some h⟩
  · rw [if_neg hi] at h
    exact absurd h.symm hx
theorem cl_step {S : List Nat} {i x : Nat} {r r' : RS} (h : cl S i = some r) (hx : ch S i = x) (h3 : x ≠ 300) (ha : acc r x = some r') : cl S (i + 1) = some r' := by
  obtain ⟨h1, h2⟩ := ch_at hx h3
  unfold cl
  rw [h]
  simp only [h1, h2, if_true]
  exact ha
theorem fl_at {S : List Nat} {i : Nat} {r : RS} (h : cl S i = some r) (ha : ∀ x, ch S i = x → x ≠ 300 → acc r x = none) (he : r.1 = true ∨ 0 < r.2.2.1) : flS S i := by
  obtain ⟨h1, h2⟩ := cl_le h
  refine ⟨r, h, ?_⟩
  by_cases hi : i < S.length
  · refine Or.inl ⟨hi, ?_⟩
    by_cases h40 : i = 40
    · exact Or.inl h40
    · have e : S[i]? = some S[i] := List.getElem?_eq_getElem hi
      refine Or.inr ⟨S[i], e, ?_⟩
      by_cases h3 : S[i] = 300
      · rw [h3]
        unfold acc
        rw [if_neg (by decide)]
        by_cases hr : r.1 = true
        · rw [if_pos hr, if_neg (by decide), if_neg (by simp), if_pos (by decide)]
        · rw [if_neg hr, if_neg (by simp), if_pos (by decide)]
      · refine ha _ ?_ h3
        unfold ch
        rw [if_pos (by omega), e]
        rfl
  · exact Or.inr ⟨by omega, he⟩
theorem flush_app {s : Nat} {W : List Nat} (hW : ∀ a, W.head? = some a → str a < s) : ∀ (pe : List Nat) (O : List Int32), (∀ a ∈ pe, s ≤ str a) → flush s (pe ++ W) O = (W, O ++ pe.map ng) := by
  intro pe
  induction pe with
  | nil =>
    intro O _
    cases W with
    | nil => simp [flush]
    | cons a W =>
      have := hW a rfl
      simp only [List.nil_append, List.map_nil, List.append_nil]
      unfold flush
      rw [if_neg (by omega)]
  | cons a pe ih =>
    intro O h
    rw [List.cons_append]
    unfold flush
    rw [if_pos (h a (by simp)), ih _ (fun b hb => h b (by simp [hb]))]
    simp
theorem addD_app {O : List Int32} {c : Int32} {x : Nat} : addD (O ++ [c]) x = O ++ [c * 10 + nI x] := by
  unfold addD
  simp
section AC
variable {dg dp x : Nat} {cm : Nat → Bool} {W : List Nat} {O : List Int32}
theorem acc_dig (h : 48 ≤ x ∧ x ≤ 57) : acc (true, dg, dp, cm, W, O) x = some (false, 1, dp, cm, W, O ++ [nI (x - 48)]) := by
  unfold acc
  rw [if_pos h, if_pos rfl]
theorem acc_dig2 (h : 48 ≤ x ∧ x ≤ 57) (hd : ¬ (dg = 0 ∨ dg = 3)) : acc (false, dg, dp, cm, W, O) x = some (false, dg + 1, dp, cm, W, addD O (x - 48)) := by
  unfold acc
  rw [if_pos h, if_neg (by simp), if_neg hd]
theorem acc_dig3 (h : 48 ≤ x ∧ x ≤ 57) (hd : dg = 0 ∨ dg = 3) : acc (false, dg, dp, cm, W, O) x = none := by
  unfold acc
  rw [if_pos h, if_neg (by simp), if_pos hd]
theorem acc_neg : acc (true, dg, dp, cm, W, O) 45 = some (true, 0, dp, cm, 256 :: W, O) := by
  unfold acc
  rw [if_neg (by decide), if_pos rfl, if_pos rfl]
theorem acc_open (h : dp < 4) : acc (true, dg, dp, cm, W, O) 40 = some (true, 0, dp + 1, setB cm (dp + 1) false, 40 :: W, O) := by
  unfold acc
  rw [if_neg (by decide), if_pos rfl, if_neg (by decide), if_pos ⟨rfl, h⟩]
theorem acc_th (h : lof x < 7) (h1 : ¬ (48 ≤ x ∧ x ≤ 57)) (h2 : x ≠ 45) (h3 : x ≠ 40) : acc (true, dg, dp, cm, W, O) x = some (false, 0, dp, cm, W, O ++ [ng x]) := by
  unfold acc
  rw [if_neg h1, if_pos rfl, if_neg h2, if_neg (fun z => h3 z.1), if_neg (by omega)]
theorem acc_bad (h : lof x = 7) (h1 : ¬ (48 ≤ x ∧ x ≤ 57)) (h2 : x ≠ 45) (h3 : x = 40 → ¬ dp < 4) : acc (true, dg, dp, cm, W, O) x = none := by
  unfold acc
  rw [if_neg h1, if_pos rfl, if_neg h2, if_neg (fun z => h3 z.1 z.2), if_pos h]
theorem acc_close (h : 0 < dp) : acc (false, dg, dp, cm, W, O) 41 = some (false, 0, dp - 1, cm, (flush 1 W O).1.tail, (flush 1 W O).2) := by
  unfold acc
  rw [if_neg (by decide), if_neg (by simp), if_pos ⟨rfl, h⟩]
theorem acc_op (h : x = 42 ∨ x = 43 ∨ x = 45 ∨ x = 47) : acc (false, dg, dp, cm, W, O) x = some (true, 0, dp, cm, x :: (flush (str x) W O).1, (flush (str x) W O).2) := by
  unfold acc
  rw [if_neg (by omega), if_neg (by simp), if_neg (by omega)]
  rcases h with h | h | h | h <;> subst h <;> rw [if_neg (by decide), if_neg (by intro z; exact absurd z.1 (by decide)), if_neg (by decide)]
theorem acc_cmp (h : x = 60 ∨ x = 61 ∨ x = 62) (hc : cm dp = false) : acc (false, dg, dp, cm, W, O) x = some (true, 0, dp, setB cm dp true, x :: (flush 1 W O).1, (flush 1 W O).2) := by
  unfold acc
  rw [if_neg (by omega), if_neg (by simp), if_neg (by omega)]
  have e : str x = 1 := by rcases h with h | h | h <;> subst h <;> rfl
  rw [e, if_neg (by decide), if_neg (by simp [hc]), if_pos rfl]
theorem acc_end (h1 : ¬ (48 ≤ x ∧ x ≤ 57)) (h2 : x = 41 → dp = 0) (h3 : str x ≤ 1) (h4 : str x = 1 → cm dp = true) : acc (false, dg, dp, cm, W, O) x = none := by
  unfold acc
  rw [if_neg h1, if_neg (by simp), if_neg (fun z => by have := h2 z.1; have := z.2; simp only at this; omega)]
  by_cases h : str x = 0
  · rw [if_pos h]
  · rw [if_neg h, if_pos ⟨by omega, h4 (by omega)⟩]
end AC
