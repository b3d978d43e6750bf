/-! the class's RuleReader goes as its plain machine does -/
theorem wI_r {w : Wd} {i k a : Nat} {v : Int32} (h : a ≠ i) : (wI w i k v).1 a = w.1 a := by rw [wI_wR, wR_ne h]
def lst (f : Nat → Int32) (l : List Int32) : Prop := ∀ i x, l[i]? = some x → f i = x
theorem lst_app {f : Nat → Int32} {l : List Int32} {x : Int32} (h : lst f l) : lst (upd f l.length x) (l ++ [x]) := by
  intro i y hy
  by_cases e : i = l.length
  · subst e
    rw [List.getElem?_append_right (Nat.le_refl _), Nat.sub_self] at hy
    cases hy
    exact upd_self
  · have hb : i < (l ++ [x]).length := (List.getElem?_eq_some_iff.mp hy).1
    rw [List.length_append, show [x].length = 1 from rfl] at hb
    rw [List.getElem?_append_left (by omega)] at hy
    rw [upd_ne e]
    exact h i y hy
theorem lst_pop {f : Nat → Int32} {l : List Int32} {x : Int32} (h : lst f (l ++ [x])) : lst f l ∧ f l.length = x := by
  refine ⟨fun i y hy => ?_, ?_⟩
  · have hb : i < l.length := (List.getElem?_eq_some_iff.mp hy).1
    exact h i y (by rw [List.getElem?_append_left hb]; exact hy)
  · exact h _ x (by rw [List.getElem?_append_right (Nat.le_refl _), Nat.sub_self]; rfl)
def stk (f : Nat → Int32) (W : List Nat) : Prop := lst f (W.reverse.map nI)
theorem stk_push {f : Nat → Int32} {W : List Nat} {a : Nat} (h : stk f W) : stk (upd f W.length (nI a)) (a :: W) := by
  unfold stk at h ⊢
  rw [List.reverse_cons, List.map_append]
  have := lst_app (x := nI a) h
  rw [List.length_map, List.length_reverse] at this
  exact this
theorem stk_pop {f : Nat → Int32} {W : List Nat} {a : Nat} (h : stk f (a :: W)) : stk f W ∧ f W.length = nI a := by
  unfold stk at h ⊢
  rw [List.reverse_cons, List.map_append] at h
  have := lst_pop (x := nI a) h
  rw [List.length_map, List.length_reverse] at this
  exact this
def codeW (w : Wd) (o : Nat) (O : List Int32) : Prop := w.1 o 2 = nI O.length ∧ lst (w.1 (o + 1)) O
theorem d_put {w : Wd} {o : Nat} {O : List Int32} (h : codeW w o O) (hl : O.length < 40) (x : Int32) : ∃ w', D_X6_put o x w = some w' ∧ codeW w' o (O ++ [x]) ∧ but [o, o + 1] w w' := by
  refine ⟨wI (wI w (o + 1) O.length x) o 2 (nI (O.length + 1)), ?_, ⟨?_, ?_⟩, but_tr (but_wI (by simp)) (but_wI (by simp))⟩
  · unfold D_X6_put
    rw [h.1, if_neg (by rw [show (40 : Int32) = nI 40 from by decide +kernel]; exact nI_ge hl (by omega)), if_pos (ib_nI hl (by omega)), bd_eq, bd_eq, nI_clamp (by omega), wI_r (by omega), h.1, nI_1]
  · rw [wI_at, List.length_append]
    rfl
  · rw [wI_r (by omega), wI_row]
    exact lst_app h.2
theorem d_addD {w : Wd} {o : Nat} {O : List Int32} {x : Nat} (h : codeW w o O) (h0 : 0 < O.length) (hl : O.length ≤ 40) : ∃ w', D_X6_addDigit o (nI x) w = some w' ∧ codeW w' o (addD O x) ∧ but [o, o + 1] w w' := by
  obtain ⟨O0, c, rfl⟩ : ∃ O0 c, O = O0 ++ [c] := ⟨O.dropLast, O.getLast (by intro z; rw [z] at h0; exact absurd h0 (by decide)), (List.dropLast_concat_getLast _).symm⟩
  have hl1 : (O0 ++ [c]).length = O0.length + 1 := by simp
  rw [hl1] at hl
  obtain ⟨h1, h2⟩ := h
  rw [hl1] at h1
  obtain ⟨p1, p2⟩ := lst_pop h2
  rw [addD_app]
  refine ⟨wI w (o + 1) O0.length (c * 10 + nI x), ?_, ⟨?_, ?_⟩, but_wI (by simp)⟩
  · unfold D_X6_addDigit
    rw [h1, if_neg (nI_nle (by omega) (by omega)), nI_pred, if_pos (ib_nI (by omega) (by omega)), if_pos (ib_nI (by omega) (by omega)), bd_eq, nI_clamp (by omega), p2]
  · rw [wI_r (by omega), h1]
    simp
  · rw [wI_row]
    exact lst_app p1
theorem d_strength {a : Nat} (ha : a ≤ 256) {w : Wd} : D_X7_strength (nI a) w = some (nI (str a), w) := by
  have key : ∀ x, x < 257 → (if (nI x) = (42 : Int32) then (3 : Int32) else if (nI x) = (43 : Int32) then 2 else if (nI x) = (45 : Int32) then 2 else if (nI x) = (47 : Int32) then 3 else if (nI x) = (60 : Int32) then 1 else if (nI x) = (61 : Int32) then 1 else if (nI x) = (62 : Int32) then 1 else if (nI x) = (256 : Int32) then 4 else 0) = nI (str x) := by decide +kernel
  rw [← key a (by omega)]
  unfold D_X7_strength
  repeat (first | rfl | split)
theorem str_4 (a : Nat) : str a ≤ 4 := by
  unfold str
  repeat (split <;> try omega)
theorem c_flush {s : Nat} (hs : s ≤ 4) {k : Wd → Option Wd} : ∀ (W : List Nat) (O : List Int32) (w : Wd) (fu : Nat), codeW w 103 O → w.1 100 3 = nI W.length → stk (w.1 101) W → W.length + O.length ≤ 40 → (∀ a ∈ W, a ≤ 256) → W.length < fu → ∃ w', L_X7_bindWaiting_0 (nI s) k fu w = k w' ∧ codeW w' 103 (flush s W O).2 ∧ w'.1 100 3 = nI (flush s W O).1.length ∧ stk (w'.1 101) (flush s W O).1 ∧ but [100, 103, 104] w w' ∧ ∀ j, j ≠ 3 → w'.1 100 j = w.1 100 j := by
  intro W
  induction W with
  | nil =>
    intro O w fu h1 h2 h3 h4 h5 h6
    obtain ⟨fu, rfl⟩ : ∃ n', fu = n' + 1 := ⟨fu - 1, by omega⟩
    refine ⟨w, ?_, h1, h2, h3, ⟨fun _ _ => rfl, rfl⟩, fun _ _ => rfl⟩
    unfold L_X7_bindWaiting_0
    rw [h2, if_pos (by decide)]
  | cons a W ih =>
    intro O w fu h1 h2 h3 h4 h5 h6
    obtain ⟨fu, rfl⟩ : ∃ n', fu = n' + 1 := ⟨fu - 1, by omega⟩
    rw [List.length_cons] at h2 h4 h6
    obtain ⟨p1, p2⟩ := stk_pop h3
    have ha : a ≤ 256 := h5 a (by simp)
    have e4 : ∀ (s t : Nat), s ≤ 4 → t ≤ 4 → (nI t < nI s ↔ ¬ s ≤ t) := fun s t h h' => by
      rw [nI_ltI (by omega) (by omega)]
      omega
    unfold L_X7_bindWaiting_0
    rw [h2, if_neg (nI_nle (by omega) (by omega)), nI_pred, if_pos (ib_nI (by omega) (by omega)), nI_clamp (by omega), p2, d_strength ha, bc_eq]
    unfold flush
    by_cases hc : s ≤ str a
    · rw [if_neg (fun z => (e4 s _ hs (str_4 a)).mp z hc), h2, nI_pred, if_pos (ib_nI (by omega) (by omega)), nI_clamp (by omega), p2, if_pos hc]
      obtain ⟨w1, q1, q2, q3⟩ := d_put h1 (by omega) (-(nI a))
      have r1 : ∀ b, b ≠ 103 → b ≠ 104 → w1.1 b = w.1 b := fun b n1 n2 => q3.1 b (by simp [n1, n2])
      rw [q1, bv_eq, bd_eq, r1 100 (by decide) (by decide), h2, nI_pred]
      obtain ⟨w', t1, t2, t3, t4, t5, t6⟩ := ih (O ++ [ng a]) (wI w1 100 3 (nI W.length)) fu ⟨by rw [wI_r (by decide)]; exact q2.1, by rw [wI_r (by decide)]; exact q2.2⟩ wI_at (by rw [wI_r (by decide), r1 101 (by decide) (by decide)]; exact p1) (by rw [List.length_append, show [ng a].length = 1 from rfl]; omega) (fun b hb => h5 b (by simp [hb])) (by omega)
      refine ⟨w', t1, t2, t3, t4, but_tr (but_tr ⟨fun b hb => q3.1 b (by simp at hb ⊢; omega), q3.2⟩ (but_wI (by simp))) t5, fun j hj => ?_⟩
      rw [t6 j hj, wI_at_ne hj, r1 100 (by decide) (by decide)]
    · rw [if_pos ((e4 s _ hs (str_4 a)).mpr hc), if_neg hc]
      exact ⟨w, rfl, h1, h2, h3, ⟨fun _ _ => rfl, rfl⟩, fun _ _ => rfl⟩
abbrev RR : List Nat := [100, 101, 102, 103, 104]
def b2i (b : Bool) : Int32 := if b = true then 1 else 0
def rdC (w : Wd) (wt : Bool) (dg dp : Nat) (cm : Nat → Bool) (W : List Nat) (O : List Int32) : Prop := w.1 100 3 = nI W.length ∧ w.1 100 4 = nI dp ∧ w.1 100 5 = nI dg ∧ w.1 100 6 = b2i wt ∧ (∀ k, k ≤ dp → w.1 102 k = b2i (cm k)) ∧ stk (w.1 101) W ∧ codeW w 103 O
def okN (dg dp : Nat) (W : List Nat) (O : List Int32) (i : Nat) : Prop := dg ≤ 3 ∧ dp ≤ 4 ∧ W.length + O.length ≤ i ∧ ∀ a ∈ W, a ≤ 256
theorem flush_len {s : Nat} : ∀ (W : List Nat) (O : List Int32), (flush s W O).1.length + (flush s W O).2.length = W.length + O.length ∧ (∀ a ∈ (flush s W O).1, a ∈ W) := by
  intro W
  induction W with
  | nil => intro O; exact ⟨rfl, fun a h => h⟩
  | cons a W ih =>
    intro O
    unfold flush
    by_cases h : s ≤ str a
    · rw [if_pos h]
      obtain ⟨i1, i2⟩ := ih (O ++ [ng a])
      refine ⟨by rw [i1]; simp; omega, fun b hb => by simp [i2 b hb]⟩
    · rw [if_neg h]
      exact ⟨rfl, fun b hb => hb⟩
theorem c_await {w : Wd} {W : List Nat} {a : Nat} (h1 : w.1 100 3 = nI W.length) (h2 : stk (w.1 101) W) (hl : W.length < 40) : ∃ w', D_X7_await (nI a) w = some w' ∧ w'.1 100 3 = nI (W.length + 1) ∧ stk (w'.1 101) (a :: W) ∧ but [100, 101] w w' ∧ ∀ j, j ≠ 3 → w'.1 100 j = w.1 100 j := by
  refine ⟨wI (wI w 101 W.length (nI a)) 100 3 (nI (W.length + 1)), ?_, wI_at, ?_, but_tr (but_wI (by simp)) (but_wI (by simp)), fun j hj => ?_⟩
  · unfold D_X7_await
    rw [h1, if_neg (by rw [show (40 : Int32) = nI 40 from by decide +kernel]; exact nI_ge hl (by omega)), if_pos (ib_nI hl (by omega)), bd_eq, bd_eq, nI_clamp (by omega), wI_r (by decide), h1, nI_1]
  · rw [wI_r (by decide), wI_row]
    exact stk_push h2
  · rw [wI_at_ne hj, wI_r (by decide)]
theorem mem_le {x : Nat} {W : List Nat} (h : x ≤ 256) (h2 : ∀ a ∈ W, a ≤ 256) : ∀ a ∈ x :: W, a ≤ 256 := by
  intro a ha
  rcases List.mem_cons.mp ha with z | z
  · omega
  · exact h2 a z
theorem okN_acc {wt : Bool} {dg dp x i : Nat} {cm : Nat → Bool} {W : List Nat} {O : List Int32} (h : okN dg dp W O i) (hx : x < 256) {wt' : Bool} {dg' dp' : Nat} {cm' : Nat → Bool} {W' : List Nat} {O' : List Int32} (ha : acc (wt, dg, dp, cm, W, O) x = some (wt', dg', dp', cm', W', O')) : okN dg' dp' W' O' (i + 1) := by
  obtain ⟨h1, h2, h3, h4⟩ := h
  have hf := fun s => flush_len (s := s) W O
  unfold acc at ha
  simp only at ha
  split at ha
  · split at ha
    · cases ha
      exact ⟨by decide, h2, by simp; omega, h4⟩
    · split at ha
      · cases ha
      · rename_i hz
        cases ha
        refine ⟨by omega, h2, ?_, h4⟩
        unfold addD
        simp
        omega
  · split at ha
    · split at ha
      · cases ha
        exact ⟨by decide, h2, by simp; omega, mem_le (by omega) h4⟩
      · split at ha
        · rename_i hz
          cases ha
          exact ⟨by decide, by omega, by simp; omega, mem_le (by omega) h4⟩
        · split at ha
          · cases ha
          · cases ha
            exact ⟨by decide, h2, by simp; omega, h4⟩
    · split at ha
      · cases ha
        have := hf 1
        refine ⟨by decide, by omega, by rw [List.length_tail]; omega, fun a ha => h4 a (this.2 a (List.mem_of_mem_tail ha))⟩
      · split at ha
        · cases ha
        · split at ha
          · cases ha
          · cases ha
            have := hf (str x)
            exact ⟨by decide, h2, by simp; omega, mem_le (by omega) (fun a z => h4 a (this.2 a z))⟩
theorem cl_ok {S : List Nat} (hS : ∀ x ∈ S, x < 256) : ∀ i wt dg dp cm W O, cl S i = some (wt, dg, dp, cm, W, O) → okN dg dp W O i := by
  intro i
  induction i with
  | zero =>
    intro wt dg dp cm W O h
    unfold cl at h
    cases h
    exact ⟨by decide, by decide, by simp, by simp⟩
  | succ i ih =>
    intro wt dg dp cm W O h
    unfold cl at h
    split at h
    · cases h
    · rename_i r hr
      split at h
      · split at h
        · rename_i x hx
          obtain ⟨a, b, c, d, e, f⟩ := r
          exact okN_acc (ih a b c d e f hr) (hS x (List.mem_of_getElem? hx)) h
        · cases h
      · cases h
