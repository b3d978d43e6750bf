/-! reach -/
def stR (c L : Nat) (P0 : Nat → Nat) (D : Nat) (S : List (Nat → Nat)) (τ : List Nat) : List (Nat → Nat) := if τ.length = D then (match fdS S (psT c L P0 τ) S.length 0 with | some _ => S | none => S ++ [psT c L P0 τ]) else S
def cnD (D : Nat) (l : List (List Nat)) : Nat := l.countP (fun τ => τ.length == D)
def loS (k : Nat) (S : List (Nat → Nat)) : Nat := S.foldl (fun a Q => min a (Q k)) 1000000
def hiS (k : Nat) (S : List (Nat → Nat)) : Nat := S.foldl (fun a Q => max a (Q k)) 0
theorem fold_min {k : Nat} : ∀ (S : List (Nat → Nat)) (a : Nat), S.foldl (fun a Q => min a (Q k)) a ≤ a ∧ ∀ Q ∈ S, S.foldl (fun a Q => min a (Q k)) a ≤ Q k := by
  intro S
  induction S with
  | nil => intro a; exact ⟨Nat.le_refl _, fun Q h => by cases h⟩
  | cons R S ih =>
    intro a
    obtain ⟨h1, h2⟩ := ih (min a (R k))
    have e : (R :: S).foldl (fun a Q => min a (Q k)) a = S.foldl (fun a Q => min a (Q k)) (min a (R k)) := rfl
    rw [e]
    refine ⟨by omega, fun Q hQ => ?_⟩
    rcases List.mem_cons.mp hQ with z | z
    · rw [z]; omega
    · exact h2 Q z
theorem fold_max {k N : Nat} : ∀ (S : List (Nat → Nat)) (a : Nat), a ≤ S.foldl (fun a Q => max a (Q k)) a ∧ (∀ Q ∈ S, Q k ≤ S.foldl (fun a Q => max a (Q k)) a) ∧ (a < N → (∀ Q ∈ S, Q k < N) → S.foldl (fun a Q => max a (Q k)) a < N) := by
  intro S
  induction S with
  | nil => intro a; exact ⟨Nat.le_refl _, fun Q h => (by cases h), fun h _ => h⟩
  | cons R S ih =>
    intro a
    obtain ⟨h1, h2, h3⟩ := ih (max a (R k))
    have e : (R :: S).foldl (fun a Q => max a (Q k)) a = S.foldl (fun a Q => max a (Q k)) (max a (R k)) := rfl
    rw [e]
    refine ⟨by omega, fun Q hQ => ?_, fun ha hS => h3 ?_ (fun Q hQ => hS Q (List.mem_cons_of_mem _ hQ))⟩
    · rcases List.mem_cons.mp hQ with z | z
      · rw [z]; omega
      · exact h2 Q z
    · have := hS R List.mem_cons_self
      omega
def okR (k : Nat) (S : List (Nat → Nat)) : Prop := ∀ Q ∈ S, okQ Q ∧ Q k < 400000
section RE
variable {w w1 u : Wd} {c L D : Nat} {P0 : Nat → Nat}
theorem lv_kd {f : List Nat → List (List Nat)} {z : Nat} {r : List Nat} (hf : ∀ p, cnD D ((p :: r) :: f (p :: r)) ≤ z) : ∀ m p, cnD D (kdT c L P0 f r m p) ≤ m * z := by
  intro m
  induction m with
  | zero => intro p; exact Nat.zero_le _
  | succ m ih =>
    intro p
    have h1 := ih (p + 1)
    have h2 := hf p
    unfold kdT
    unfold cnD at *
    rw [List.countP_append, Nat.succ_mul]
    have h3 : List.countP (fun τ => τ.length == D) (if psT c L P0 r (psT c L P0 r 14 * c + p) = 0 then [] else (p :: r) :: f (p :: r)) ≤ z := by
      split
      · exact Nat.zero_le _
      · exact h2
    omega
theorem lv_sb {ot : Bool} : ∀ n r, r.length + n = D → cnD D (r :: sbT c L P0 ot n r) ≤ c ^ n := by
  intro n
  induction n with
  | zero =>
    intro r hr
    show cnD D [r] ≤ 1
    unfold cnD
    exact List.countP_le_length
  | succ n ih =>
    intro r hr
    have hne : cnD D (r :: sbT c L P0 ot (n + 1) r) = cnD D (sbT c L P0 ot (n + 1) r) := by
      unfold cnD
      rw [List.countP_cons, if_neg (by simp; omega)]
      rfl
    rw [hne]
    unfold sbT
    split
    · exact Nat.zero_le _
    · have := lv_kd (c := c) (L := L) (P0 := P0) (f := sbT c L P0 ot n) (z := c ^ n) (r := r) (fun p => ih (p :: r) (by show r.length + 1 + n = D; omega)) c 0
      rw [Nat.pow_succ, Nat.mul_comm]
      exact this
theorem stR_ok {k : Nat} {S : List (Nat → Nat)} {τ : List Nat} (hB : okB c L (P0 14) P0) (hk : k < 14) (h : okR k S) (ok : okT c τ) : okR k (stR c L P0 D S τ) ∧ (stR c L P0 D S τ).length ≤ S.length + cnD D [τ] := by
  have hP := (psT_ok (L := L) hB τ ok).1
  unfold stR
  by_cases e : τ.length = D
  · rw [if_pos e]
    have hc : cnD D [τ] = 1 := by
      unfold cnD
      rw [List.countP_cons, if_pos (by simpa using e)]
      rfl
    rw [hc]
    cases fdS S (psT c L P0 τ) S.length 0 with
    | some j => exact ⟨h, by simp only; omega⟩
    | none =>
      refine ⟨fun Q hQ => ?_, ?_⟩
      · rcases List.mem_append.mp hQ with z | z
        · exact h Q z
        · rw [List.mem_singleton.mp z]
          have := le_tot (P := psT c L P0 τ) (i := k) hk
          have := hP.2.2.2.2.2
          exact ⟨okQ_of hP, by omega⟩
      · show (S ++ [psT c L P0 τ]).length ≤ _
        rw [List.length_append]
        exact Nat.le_refl _
  · rw [if_neg e]
    exact ⟨h, by omega⟩
theorem fdS_eq {S : List (Nat → Nat)} {P : Nat → Nat} : ∀ n i j, fdS S P n i = some j → eqB (gQ S j) P = true := by
  intro n
  induction n with
  | zero => intro i j h; cases h
  | succ n ih =>
    intro i j h
    unfold fdS at h
    by_cases e : eqB (gQ S i) P = true
    · rw [if_pos e] at h
      cases h
      exact e
    · rw [if_neg e] at h
      exact ih _ _ h
theorem found_le {k j : Nat} {S : List (Nat → Nat)} {P : Nat → Nat} (hk : k < 15) (h : fdS S P S.length 0 = some j) : S ≠ [] ∧ loS k S ≤ P k ∧ P k ≤ hiS k S := by
  have h1 := fdS_lt _ _ _ h
  have h2 := fdS_eq _ _ _ h
  have hj : j < S.length := by omega
  have hm : gQ S j ∈ S := List.mem_of_getElem? (gQ_get hj)
  have e : gQ S j k = P k := (eqN_iff 15 0).mp h2 k (Nat.zero_le _) (by omega)
  refine ⟨fun z => by rw [z] at hj; exact absurd hj (Nat.not_lt_zero _), ?_, ?_⟩
  · have := (fold_min (k := k) S 1000000).2 _ hm
    rw [e] at this
    exact this
  · have := (fold_max (k := k) (N := 0) S 0).2.1 _ hm
    rw [e] at this
    exact this
theorem TS_any {ot : Bool} {M : Nat} {E T : List Nat} {r : List Nat} (h : TS w c L P0 ot M r) (s : same E T w w1) (hE : ∀ a ∈ E, 75 ≤ a ∧ a ≠ 87 ∧ a ≠ 89) : TS w1 c L P0 ot M r := by
  obtain ⟨t5, t6, t7, t8, tr, tp, ok, tM⟩ := h
  have h87 := s.1 87 (fun z => (hE 87 z).2.1 rfl)
  refine ⟨by rw [h87]; exact t5, by rw [h87]; exact t6, by rw [h87]; exact t7, by rw [h87]; exact t8, trT_keep r (fun a h1 h2 => s.1 a (fun z => by have := (hE a z).1; have := ok.1; omega)) (fun i _ => by rw [s.1 89 (fun z => (hE 89 z).2.2 rfl)]) tr, posC_same tp s (fun a z => (hE a z).1), ok, tM⟩
theorem c_putNew {q : Nat} {P : Nat → Nat} {l : List (Nat → Nat)} (hat : isAt w q c P) (hok : okQ P) (h : shC w l) (hl : l.length < 216) (hq : q + 2 < 75) : ∃ w1, D_X8_putNew q w = some w1 ∧ shC w1 (match fdS l P l.length 0 with | some _ => l | none => l ++ [P]) ∧ but [98, 99] w w1 := by
  unfold D_X8_putNew
  rw [c_find hat hok h (by omega), bc_eq]
  cases hf : fdS l P l.length 0 with
  | some j =>
    have := fdS_lt _ _ _ hf
    rw [if_pos (show (0 : Int32) ≤ fdI (some j) from nI_pos' (by omega))]
    exact ⟨w, rfl, h, but_rf w⟩
  | none =>
    obtain ⟨w1, e1, s1, b1⟩ := c_put hat hok h hl hq
    rw [if_neg (show ¬ (0 : Int32) ≤ fdI none by decide), e1, bv_eq]
    exact ⟨w1, rfl, s1, b1⟩
/-- one node of the class's loop -/
theorem c_rvisit {k4 k5 : Int32 → Int32 → Wd → Option (Int32 × Wd)} (hB : okB c L (P0 14) P0) (hD : D ≤ 6) {fu j : Nat} {r : List Nat} {S : List (Nat → Nat)} {x7 : Int32} (hj : j < 900000) (h : TS w c L P0 false D r) (h0 : isAt w 0 c P0) (hS : shC w S) (hok : okR (12 + P0 14) S) (hl : S.length + cnD D [r] ≤ 216) (hx : S ≠ [] → x7 = nI (loS (12 + P0 14) S)) : ∃ w1 x7', L_X11_reach_42 (nI D) k4 k5 (fu + 1) x7 (nI (hiS (12 + P0 14) S)) (nI j) w = J_X11_reach_j124_2 (L_X11_reach_42 (nI D) k4 k5 fu) k4 (nI j) x7' (nI (hiS (12 + P0 14) (stR c L P0 D S r))) w1 ∧ but [98, 99] w w1 ∧ shC w1 (stR c L P0 D S r) ∧ (stR c L P0 D S r ≠ [] → x7' = nI (loS (12 + P0 14) (stR c L P0 D S r))) := by
  have h6 := h.2.2.2.2.2.2.1.1
  have hm := hB.2.2.2.1
  have hP := (psT_ok (L := L) hB r h.2.2.2.2.2.2.1).1
  have at1 := trT_top r h.2.2.2.2.1
  have i2 : ib (nI (P0 14)) 2 = true := ib_nI (by omega) (by decide)
  have hhi : hiS (12 + P0 14) S < 400000 := (fold_max S 0).2.2 (by decide) (fun Q hQ => (hok Q hQ).2)
  have hlo : loS (12 + P0 14) S ≤ 1000000 := (fold_min S 1000000).1
  have hv : psT c L P0 r (12 + P0 14) < 400000 := by
    have := le_tot (P := psT c L P0 r) (i := 12 + P0 14) (by omega)
    have := hP.2.2.2.2.2
    omega
  generalize hR : L_X11_reach_42 (nI D) k4 k5 fu = R
  by_cases e : r.length = D
  · have hc : cnD D [r] = 1 := by
      unfold cnD
      rw [List.countP_cons, if_pos (by simpa using e)]
      rfl
    obtain ⟨w1, e1, s1, b1⟩ := c_putNew at1 (okQ_of hP) hS (by omega) (by omega)
    have es : stR c L P0 D S r = (match fdS S (psT c L P0 r) S.length 0 with | some _ => S | none => S ++ [psT c L P0 r]) := if_pos e
    rw [← es] at s1
    have go : ∀ x21, J_X11_reach_j102_1 (nI (hiS (12 + P0 14) S)) (nI (psT c L P0 r (12 + P0 14))) (J_X11_reach_j124_2 R k4 (nI j)) x21 w = J_X11_reach_j124_2 R k4 (nI j) x21 (nI (max (hiS (12 + P0 14) S) (psT c L P0 r (12 + P0 14)))) w1 := by
      intro x21
      unfold J_X11_reach_j102_1
      rw [imax_nn (by omega) (by omega), bd_eq, c_here h, bc_eq, e1, bv_eq]
    have hhi2 : max (hiS (12 + P0 14) S) (psT c L P0 r (12 + P0 14)) = hiS (12 + P0 14) (stR c L P0 D S r) := by
      rw [es]
      cases hf : fdS S (psT c L P0 r) S.length 0 with
      | some i =>
        have := (found_le (k := 12 + P0 14) (by omega) hf).2.2
        show max _ _ = hiS _ S
        omega
      | none =>
        show _ = (S ++ [psT c L P0 r]).foldl _ 0
        rw [List.foldl_append]
        rfl
    have hstart : L_X11_reach_42 (nI D) k4 k5 (fu + 1) x7 (nI (hiS (12 + P0 14) S)) (nI j) w = J_X11_reach_j102_1 (nI (hiS (12 + P0 14) S)) (nI (psT c L P0 r (12 + P0 14))) (J_X11_reach_j124_2 R k4 (nI j)) (if S.length = 0 then nI (psT c L P0 r (12 + P0 14)) else imin x7 (nI (psT c L P0 r (12 + P0 14)))) w := by
      show (if (1000000 : Int32) ≤ nI j then _ else _) = _
      rw [show (1000000 : Int32) = nI 1000000 from by decide +kernel, if_neg (nI_ge (by omega) (by decide)), bd_eq, h.1, if_pos (by rw [e]), c_here h, bc_eq, isAt_m h0, if_pos i2, nI_clamp (by omega), at_P at1 (by omega), bd_eq, bd_eq, hS.1, hR]
      by_cases hz : S.length = 0
      · rw [if_pos (by rw [hz]; rfl), if_pos hz]
      · rw [if_neg (by rw [nI_z (by omega)]; exact hz), if_neg hz]
    refine ⟨w1, _, by rw [hstart, go, hhi2], b1, s1, fun _ => ?_⟩
    by_cases hz : S.length = 0
    · have hnil := List.length_eq_zero_iff.mp hz
      rw [if_pos hz, es, hnil]
      show nI _ = nI (min 1000000 (psT c L P0 r (12 + P0 14)))
      rw [Nat.min_eq_right (by omega)]
    · have hne : S ≠ [] := fun z => hz (by rw [z]; rfl)
      rw [if_neg hz, hx hne, imin_nn (by omega) (by omega), es]
      cases hf : fdS S (psT c L P0 r) S.length 0 with
      | some i =>
        have := (found_le (k := 12 + P0 14) (by omega) hf).2.1
        show nI (min _ _) = nI (loS _ S)
        rw [Nat.min_eq_left this]
      | none =>
        show _ = nI ((S ++ [psT c L P0 r]).foldl _ 1000000)
        rw [List.foldl_append]
        rfl
  · have es : stR c L P0 D S r = S := if_neg e
    rw [es]
    refine ⟨w, x7, ?_, but_rf w, hS, hx⟩
    show (if (1000000 : Int32) ≤ nI j then _ else _) = _
    rw [show (1000000 : Int32) = nI 1000000 from by decide +kernel, if_neg (nI_ge (by omega) (by decide)), bd_eq, h.1, if_neg (by rw [nI_eq (by omega) (by omega)]; exact e), hR]
theorem c_rloop {k4 k5 : Int32 → Int32 → Wd → Option (Int32 × Wd)} (hB : okB c L (P0 14) P0) (hD : D ≤ 6) : ∀ (l : List (List Nat)) (fu j : Nat) (r : List Nat) (S : List (Nat → Nat)) (x7 : Int32) (w : Wd), l.length < fu → j + l.length < 800000 → S.length + cnD D (r :: l) ≤ 216 → TS w c L P0 false D r → isAt w 0 c P0 → sbT c L P0 false (D - r.length) r ++ rsT c L P0 false D r = l → shC w S → okR (12 + P0 14) S → (S ≠ [] → x7 = nI (loS (12 + P0 14) S)) → ∃ w1 x7', L_X11_reach_42 (nI D) k4 k5 fu x7 (nI (hiS (12 + P0 14) S)) (nI j) w = k4 x7' (nI (hiS (12 + P0 14) ((r :: l).foldl (stR c L P0 D) S))) w1 ∧ qC EC0 [] w w1 ∧ shC w1 ((r :: l).foldl (stR c L P0 D) S) ∧ ((r :: l).foldl (stR c L P0 D) S ≠ [] → x7' = nI (loS (12 + P0 14) ((r :: l).foldl (stR c L P0 D) S))) := by
  have hm := hB.2.2.2.1
  have upT : ∀ {w w1 : Wd}, qC ET [] w w1 → qC EC0 [] w w1 := fun q => ⟨same_sub q.1 (by decide) (by simp), q.2⟩
  intro l
  induction l with
  | nil =>
    intro fu j r S x7 w hf hj hc h h0 hl hS hok hx
    have hnil : ([] : List (List Nat)).length = 0 := rfl
    obtain ⟨fu, rfl⟩ : ∃ n', fu = n' + 1 := ⟨fu - 1, by omega⟩
    obtain ⟨w1, x', e1, b1, s1, y1⟩ := c_rvisit (k4 := k4) (k5 := k5) (fu := fu) (j := j) hB hD (by omega) h h0 hS hok hc hx
    have T1 := TS_any h (same_but (T := []) b1) (by decide)
    have q1 : qC EC0 [] w w1 := qC_hi (same_but (T := []) b1) (by decide) (by decide) (by simp)
    rcases d_step hB hD T1 with ⟨w2, e2, q2, -⟩ | ⟨q, w2, e2, q2, T2, e3⟩
    · refine ⟨w2, x', ?_, qC_tr q1 (upT q2), shC_keep s1 (q2.1.1 98 (by decide)) (q2.1.1 99 (by decide)), y1⟩
      rw [e1]
      unfold J_X11_reach_j124_2
      rw [e2, bc_eq, if_pos rfl]
      rfl
    · rw [hl] at e3
      cases e3
  | cons τ l ih =>
    intro fu j r S x7 w hf hj hc h h0 hl hS hok hx
    have hll : (τ :: l).length = l.length + 1 := rfl
    obtain ⟨fu, rfl⟩ : ∃ n', fu = n' + 1 := ⟨fu - 1, by omega⟩
    have hcc : cnD D (r :: τ :: l) = cnD D [r] + cnD D (τ :: l) := List.countP_append (l₁ := [r]) (l₂ := τ :: l)
    obtain ⟨w1, x', e1, b1, s1, y1⟩ := c_rvisit (k4 := k4) (k5 := k5) (fu := fu) (j := j) hB hD (by omega) h h0 hS hok (by omega) hx
    obtain ⟨ok1, le1⟩ := stR_ok (D := D) hB (by omega) hok h.2.2.2.2.2.2.1
    have T1 := TS_any h (same_but (T := []) b1) (by decide)
    have q1 : qC EC0 [] w w1 := qC_hi (same_but (T := []) b1) (by decide) (by decide) (by simp)
    rcases d_step hB hD T1 with ⟨w2, e2, q2, e3⟩ | ⟨q, w2, e2, q2, T2, e3⟩
    · rw [hl] at e3
      cases e3
    · rw [hl] at e3
      injection e3 with eq1 eq2
      subst eq1
      obtain ⟨w3, x3, f1, f2, f3, f4⟩ := ih fu (j + 1) τ (stR c L P0 D S r) x' w2 (by omega) (by omega) (by omega) T2 (isAt_same (isAt_same h0 (same_but (T := []) b1) (by decide)) q2.1 (by decide)) eq2.symm (shC_keep s1 (q2.1.1 98 (by decide)) (q2.1.1 99 (by decide))) ok1 y1
      refine ⟨w3, x3, ?_, qC_tr q1 (qC_tr (upT q2) f2), f3, f4⟩
      rw [e1]
      unfold J_X11_reach_j124_2
      rw [e2, bc_eq, if_neg (by decide), bd_eq, nI_1, f1]
      rfl
/-! the reference -/
def rcM (u : Wd) (S : List (Nat → Nat)) : Prop := u.1 119 38 = nI S.length ∧ ∀ i Q, S[i]? = some Q → okQ Q ∧ ∀ k, k < 15 → u.1 149 (16 * i + k) = nI (Q k)
theorem m_isReached {a i : Nat} {P : Nat → Nat} {S : List (Nat → Nat)} (hla : ln a = 16) (ha : u.1 a = eP P) (hok : okQ P) (h : rcM u S) (hl : S.length ≤ 216) (hi : i < S.length) : D_X12_isReached a (nI i) u = some (if eqB (gQ S i) P = true then 1 else 0, u) := by
  obtain ⟨a1, a2⟩ := h.2 i _ (gQ_get hi)
  have hee : ∀ k, k < 15 → (nI (gQ S i k) = nI (P k) ↔ gQ S i k = P k) := fun k hk => nI_eq (a1 k hk) (hok k hk)
  have key : ∀ (n j fu : Nat), n + j = 15 → n < fu → L_X12_isReached_2 a (nI i) J_X12_isReached_x25_1 J_X12_isReached_x33_2 fu (nI j) u = some (if eqN (gQ S i) P n j = true then 1 else 0, u) := by
    intro n
    induction n with
    | zero =>
      intro j fu hj hf
      obtain ⟨fu, rfl⟩ : ∃ n', fu = n' + 1 := ⟨fu - 1, by omega⟩
      unfold L_X12_isReached_2
      rw [n15, if_pos (nI_le (by omega) (by omega))]
      rfl
    | succ n ih =>
      intro j fu hj hf
      obtain ⟨fu, rfl⟩ : ∃ n', fu = n' + 1 := ⟨fu - 1, by omega⟩
      unfold L_X12_isReached_2
      rw [n15, if_neg (nI_ge (by omega) (by omega)), n16, pk_mul, nI_add, if_pos (ib_nI (by omega) (by decide)), hla, if_pos (ib_nI (by omega) (by decide)), nI_clamp (by omega), nI_clamp (by omega), a2 j (by omega), ha, eP_at]
      show _ = some (if (decide (gQ S i j = P j) && eqN (gQ S i) P n (j + 1)) = true then 1 else 0, u)
      by_cases cj : gQ S i j = P j
      · rw [if_pos ((hee j (by omega)).mpr cj), bd_eq, nI_1, ih (j + 1) fu (by omega) (by omega)]
        simp [cj]
      · rw [if_neg (fun z => cj ((hee j (by omega)).mp z))]
        simp [cj]
        rfl
  have := key 15 0 FU rfl (by unfold FU; omega)
  rw [nI_0] at this
  unfold D_X12_isReached
  rw [this, eqB_N]
theorem m_rcLoop {k21 k22 : Wd → Option Wd} {rec : Int32 → Int32 → Wd → Option Wd} {d : Nat} {P : Nat → Nat} {S : List (Nat → Nat)} (hd : d ≤ 6) (ha : u.1 (133 + d) = eP P) (hok : okQ P) (h : rcM u S) (hl : S.length ≤ 216) : ∀ (n i fu : Nat), n + i = S.length → n < fu → L_X12_goReach_7 rec (nI d) k21 k22 fu (nI i) u = match fdS S P n i with | none => k22 u | some _ => k21 u := by
  have hln : ln (133 + d) = 16 := (arr_ln (isArr_T hd)).1
  intro n
  induction n with
  | zero =>
    intro i fu hi hf
    obtain ⟨fu, rfl⟩ : ∃ n', fu = n' + 1 := ⟨fu - 1, by omega⟩
    unfold L_X12_goReach_7
    rw [h.1, if_pos (nI_le (by omega) (by omega))]
    rfl
  | succ n ih =>
    intro i fu hi hf
    obtain ⟨fu, rfl⟩ : ∃ n', fu = n' + 1 := ⟨fu - 1, by omega⟩
    unfold L_X12_goReach_7 fdS
    rw [h.1, if_neg (nI_ge (by omega) (by omega)), if_pos (ib_nI (by omega) (by decide)), bd_eq, nI_clamp (by omega), m_isReached hln ha hok h hl (by omega), bc_eq]
    by_cases ce : eqB (gQ S i) P = true
    · rw [if_pos ce, if_neg (by decide), if_pos ce]
    · rw [if_neg ce, if_pos rfl, if_neg ce, bd_eq, nI_1]
      exact ih (i + 1) fu (by omega) (by omega)
abbrev FR : List Nat := [19, 20, 21, 38]
theorem m_layRc {d : Nat} {P : Nat → Nat} {S : List (Nat → Nat)} (hd : d ≤ 6) (ha : u.1 (133 + d) = eP P) (hok : okQ P) (h : rcM u S) (hl : S.length < 216) : ∃ u1, J_X12_goReach_x36_4 (nI d) u = some u1 ∧ rcM u1 (S ++ [P]) ∧ gr FR [] d u u1 := by
  have hln : ln (133 + d) = 16 := (arr_ln (isArr_T hd)).1
  have e := d_layG (w := u) (a := 133 + d) (b := 149) (k0 := 16 * S.length) (by omega) (by rw [hln]; decide) (by show 16 * S.length + 16 ≤ 3456; omega) (by decide) (by rw [hln]; decide)
  generalize hf : (fun j => if 16 * S.length ≤ j ∧ j < 16 * S.length + 16 then u.1 (133 + d) (j - 16 * S.length) else u.1 149 j) = f at e
  have g1 : gr FR [] d u (wR u 149 f) := ⟨sameR_wR (by decide) (by decide), fun m => arrM_same (E := [149]) (F := []) (T := []) (Z := []) m (sameR_wR (by simp) (by decide)) (by decide), fun a h1 h2 => wR_ne (by omega), fun i hi => by rw [wR_ne (by decide)]⟩
  have hfj : ∀ j, f j = if 16 * S.length ≤ j ∧ j < 16 * S.length + 16 then u.1 (133 + d) (j - 16 * S.length) else u.1 149 j := fun j => by rw [← hf]
  refine ⟨wI (wR u 149 f) 119 38 (nI (S.length + 1)), ?_, ⟨by rw [wI_at, List.length_append]; rfl, fun i Q hi => ?_⟩, gr_tr g1 (gr_f (by decide))⟩
  · unfold J_X12_goReach_x36_4
    rw [if_pos (ib_nI (by omega) (by decide)), bd_eq, nI_clamp (by omega), h.1, n16, pk_mul, e, bv_eq, wR_ne (by decide), h.1, nI_1, bd_eq]
  · rw [wI_r (by decide), wR_self]
    by_cases ei : i = S.length
    · subst ei
      rw [List.getElem?_append_right (Nat.le_refl _), Nat.sub_self] at hi
      cases hi
      refine ⟨hok, fun k hk => ?_⟩
      rw [hfj, if_pos (by omega), show 16 * S.length + k - 16 * S.length = k by omega, ha]
      rfl
    · have hb : i < (S ++ [P]).length := (List.getElem?_eq_some_iff.mp hi).1
      rw [List.length_append, show [P].length = 1 from rfl] at hb
      rw [List.getElem?_append_left (by omega)] at hi
      obtain ⟨q1, q2⟩ := h.2 i Q hi
      refine ⟨q1, fun k hk => ?_⟩
      rw [hfj, if_neg (by omega)]
      exact q2 k hk
/-- what the recursions read that keep no line -/
def tdN (u : Wd) (c L : Nat) (P0 : Nat → Nat) (r : List Nat) : Prop := isM u (133 + r.length) (psT c L P0 r) ∧ arrM u ∧ u.1 119 1 = nI c ∧ u.1 119 2 = nI L ∧ okT c r
theorem tdN_gr {F T : List Nat} {r : List Nat} {u1 : Wd} (h : tdN u c L P0 r) (g : gr F T r.length u u1) (h1 : 1 ∉ F) (h2 : 2 ∉ F) : tdN u1 c L P0 r := by
  obtain ⟨a, d, e, f, ok⟩ := h
  exact ⟨⟨by rw [g.2.2.1 _ (by omega) (by omega)]; exact a.1, a.2⟩, g.2.1 d, (g.1.2.1 1 h1).trans e, (g.1.2.1 2 h2).trans f, ok⟩
theorem m_refN {r : List Nat} {p : Nat} (hB : okB c L (P0 14) P0) (h : tdN u c L P0 r) (hp : p < c) : D_X12_refuses (133 + r.length) (nI p) u = some (if psT c L P0 r (psT c L P0 r 14 * c + p) = 0 then -2 else 0, u) := by
  obtain ⟨a, d, e, f, ok⟩ := h
  obtain ⟨hP, -⟩ := psT_ok (L := L) hB r ok
  exact d_refuses (arr_ln (isArr_T ok.1)).1 a.1 e hP.1 hP.2.1 hP.2.2.2.1 hP.2.2.2.2.2 hp
theorem m_childN {F T : List Nat} {r : List Nat} {p : Nat} (hB : okB c L (P0 14) P0) (h : tdN u c L P0 r) (h5 : r.length ≤ 5) (hp : p < c) (hF : ∀ a ∈ [19, 20, 21], a ∈ F) (h1 : 1 ∉ F) (h2 : 2 ∉ F) : ∃ u1 u2, D_X12_lay (133 + r.length) (133 + (r.length + 1)) 0 u = some u1 ∧ D_X12_goMove (133 + (r.length + 1)) (nI p) u1 = some u2 ∧ gr F T r.length u u2 ∧ tdN u2 c L P0 (p :: r) ∧ (∀ a, a ≠ 133 + (r.length + 1) → a ≠ 119 → u2.1 a = u.1 a) ∧ ∀ k, k ≠ 19 → k ≠ 20 → k ≠ 21 → u2.1 119 k = u.1 119 k := by
  obtain ⟨a, d, e, f, ok⟩ := h
  obtain ⟨hP, -⟩ := psT_ok (L := L) hB r ok
  obtain ⟨u1, u2, e1, e2, i2, s, q, f1, f2, f3⟩ := m_try (a := 133 + r.length) (b := 133 + (r.length + 1)) (arr_ln (isArr_T ok.1)).1 (isArr_T (by omega)) (by omega) a d e f hP hp
  have g : gr F T r.length u u2 := ⟨sameR_sub s (fun x hx => by
    rw [List.mem_singleton.mp hx]
    simp only [List.mem_cons, List.not_mem_nil, or_false]
    omega) hF (by simp) (by simp), q.2, fun x h1 h2 => s.1 x (by simp only [List.mem_singleton]; omega) (by omega), fun i hi => by rw [s.1 140 (by simp only [List.mem_singleton]; omega) (by decide)]⟩
  refine ⟨u1, u2, e1, e2, g, ⟨i2, g.2.1 d, (g.1.2.1 1 h1).trans e, (g.1.2.1 2 h2).trans f, ⟨by show r.length + 1 ≤ 6; omega, fun x hx => ?_⟩⟩, fun a x1 x2 => s.1 a (by simpa using x1) x2, fun k x1 x2 x3 => s.2.1 k (by simp only [List.mem_cons, List.not_mem_nil, or_false]; omega)⟩
  rcases List.mem_cons.mp hx with z | z
  · rw [z]; exact hp
  · exact ok.2 x z
theorem ok_kd {n : Nat} {f : List Nat → List (List Nat)} (hf : ∀ s, s.length + n ≤ 6 → okT c s → ∀ τ ∈ f s, okT c τ) {r : List Nat} (hr : r.length + 1 + n ≤ 6) (ok : okT c r) : ∀ m p, m + p = c → ∀ τ ∈ kdT c L P0 f r m p, okT c τ := by
  intro m
  induction m with
  | zero => intro p _ τ h; cases h
  | succ m ih =>
    intro p hp τ h
    unfold kdT at h
    have okp : okT c (p :: r) := ⟨by show r.length + 1 ≤ 6; omega, fun x hx => by
      rcases List.mem_cons.mp hx with z | z
      · rw [z]; omega
      · exact ok.2 x z⟩
    rcases List.mem_append.mp h with z | z
    · split at z
      · cases z
      · rcases List.mem_cons.mp z with z | z
        · rw [z]; exact okp
        · exact hf (p :: r) (by show r.length + 1 + n ≤ 6; omega) okp τ z
    · exact ih (p + 1) (by omega) τ z
theorem ok_sb {ot : Bool} : ∀ n r, r.length + n ≤ 6 → okT c r → ∀ τ ∈ sbT c L P0 ot n r, okT c τ := by
  intro n
  induction n with
  | zero => intro r _ _ τ h; cases h
  | succ n ih =>
    intro r hr ok τ h
    unfold sbT at h
    split at h
    · cases h
    · exact ok_kd (n := n) ih (by omega) ok c 0 rfl τ h
theorem m_goReach (hB : okB c L (P0 14) P0) (hD : D ≤ 6) : ∀ (n fu : Nat) (r : List Nat) (S : List (Nat → Nat)) (u : Wd), n < fu → r.length + n = D → S.length + cnD D (r :: sbT c L P0 false n r) ≤ 216 → tdN u c L P0 r → rcM u S → okR (12 + P0 14) S → ∃ u1, E_X12_goReach fu (nI r.length) (nI D) u = some u1 ∧ gr FR [] r.length u u1 ∧ rcM u1 ((r :: sbT c L P0 false n r).foldl (stR c L P0 D) S) := by
  have hc6 := hB.2.1
  have hm := hB.2.2.2.1
  intro n
  induction n with
  | zero =>
    intro fu r S u hf hr hsz h hS hok
    obtain ⟨fu, rfl⟩ : ∃ n', fu = n' + 1 := ⟨fu - 1, by omega⟩
    have hP := (psT_ok (L := L) hB r h.2.2.2.2).1
    have hc : cnD D (r :: sbT c L P0 false 0 r) = 1 := by
      show cnD D [r] = 1
      unfold cnD
      rw [List.countP_cons, if_pos (by simp; omega)]
      rfl
    have go : E_X12_goReach (fu + 1) (nI r.length) (nI D) u = L_X12_goReach_7 (fun p1 p2 w => E_X12_goReach fu p1 p2 w) (nI r.length) J_X12_goReach_x29_3 (J_X12_goReach_x36_4 (nI r.length)) FU 0 u := by
      show B_X12_goReach _ _ _ u = _
      unfold B_X12_goReach
      rw [if_pos (by rw [show r.length = D by omega])]
    have lp := m_rcLoop (k21 := J_X12_goReach_x29_3) (k22 := J_X12_goReach_x36_4 (nI r.length)) (rec := fun p1 p2 w => E_X12_goReach fu p1 p2 w) (d := r.length) (by omega) h.1.1 (okQ_of hP) hS (by omega) S.length 0 FU (by omega) (by unfold FU; omega)
    rw [nI_0] at lp
    have es : stR c L P0 D S r = (match fdS S (psT c L P0 r) S.length 0 with | some _ => S | none => S ++ [psT c L P0 r]) := if_pos (by omega)
    show ∃ u1, _ ∧ _ ∧ rcM u1 (stR c L P0 D S r)
    rw [go, lp, es]
    cases hfd : fdS S (psT c L P0 r) S.length 0 with
    | some j => exact ⟨u, rfl, gr_rf u, hS⟩
    | none =>
      obtain ⟨u1, e1, s1, g1⟩ := m_layRc (d := r.length) (by omega) h.1.1 (okQ_of hP) hS (by omega)
      exact ⟨u1, e1, g1, s1⟩
  | succ n ih =>
    intro fu r S u hf hr hsz h hS hok
    obtain ⟨fu, rfl⟩ : ∃ n', fu = n' + 1 := ⟨fu - 1, by omega⟩
    have hne : ¬ nI r.length = nI D := by
      rw [nI_eq (by omega) (by omega)]
      omega
    have hfold : ∀ (l : List (List Nat)) (S : List (Nat → Nat)), okR (12 + P0 14) S → (∀ τ ∈ l, okT c τ) → okR (12 + P0 14) (l.foldl (stR c L P0 D) S) ∧ (l.foldl (stR c L P0 D) S).length ≤ S.length + cnD D l := by
      intro l
      induction l with
      | nil => intro S h _; exact ⟨h, Nat.le_refl _⟩
      | cons τ l ihl =>
        intro S h hl
        obtain ⟨a, b⟩ := stR_ok (D := D) hB (by omega) h (hl τ List.mem_cons_self)
        obtain ⟨a2, b2⟩ := ihl _ a (fun t ht => hl t (List.mem_cons_of_mem _ ht))
        have hcc : cnD D (τ :: l) = cnD D [τ] + cnD D l := List.countP_append (l₁ := [τ]) (l₂ := l)
        refine ⟨a2, ?_⟩
        show (l.foldl (stR c L P0 D) (stR c L P0 D S τ)).length ≤ _
        omega
    have kids : ∀ (m p fu2 : Nat) (S : List (Nat → Nat)) (u : Wd), m + p = c → m < fu2 → S.length + cnD D (kdT c L P0 (sbT c L P0 false n) r m p) ≤ 216 → tdN u c L P0 r → rcM u S → okR (12 + P0 14) S → ∃ u1, L_X12_goReach_69 (fun p1 p2 w => E_X12_goReach fu p1 p2 w) (nI r.length) (nI D) J_X12_goReach_x139_2 fu2 (nI p) u = some u1 ∧ gr FR [] r.length u u1 ∧ rcM u1 ((kdT c L P0 (sbT c L P0 false n) r m p).foldl (stR c L P0 D) S) := by
      intro m
      induction m with
      | zero =>
        intro p fu2 S u hp hf2 hsz h hS hok
        obtain ⟨fu2, rfl⟩ : ∃ n', fu2 = n' + 1 := ⟨fu2 - 1, by omega⟩
        refine ⟨u, ?_, gr_rf u, hS⟩
        unfold L_X12_goReach_69
        rw [h.2.2.1, if_pos (nI_le (by omega) (by omega))]
        rfl
      | succ m ihm =>
        intro p fu2 S u hp hf2 hsz h hS hok
        obtain ⟨fu2, rfl⟩ : ∃ n', fu2 = n' + 1 := ⟨fu2 - 1, by omega⟩
        have hpc : p < c := by omega
        have ib1 : ib (nI r.length) 7 = true := ib_nI (by omega) (by decide)
        have ib2 : ib (nI (r.length + 1)) 7 = true := ib_nI (by omega) (by decide)
        have cl1 : (nI r.length).toNatClampNeg = r.length := nI_clamp (by omega)
        have cl2 : (nI (r.length + 1)).toNatClampNeg = r.length + 1 := nI_clamp (by omega)
        have e0 : kdT c L P0 (sbT c L P0 false n) r (m + 1) p = (if psT c L P0 r (psT c L P0 r 14 * c + p) = 0 then [] else (p :: r) :: sbT c L P0 false n (p :: r)) ++ kdT c L P0 (sbT c L P0 false n) r m (p + 1) := rfl
        by_cases hz : psT c L P0 r (psT c L P0 r 14 * c + p) = 0
        · have e : kdT c L P0 (sbT c L P0 false n) r (m + 1) p = kdT c L P0 (sbT c L P0 false n) r m (p + 1) := by
            rw [e0, if_pos hz]
            rfl
          rw [e] at hsz ⊢
          obtain ⟨u1, e1, g1, b1⟩ := ihm (p + 1) fu2 S u (by omega) (by omega) hsz h hS hok
          refine ⟨u1, ?_, g1, b1⟩
          unfold L_X12_goReach_69
          rw [h.2.2.1, if_neg (nI_ge (by omega) (by omega)), if_pos ib1, bd_eq, cl1, m_refN hB h hpc, bc_eq, bd_eq, if_pos hz, if_neg (by decide)]
          unfold J_X12_goReach_j133_1
          rw [bd_eq, nI_1, e1]
        · have e : kdT c L P0 (sbT c L P0 false n) r (m + 1) p = ((p :: r) :: sbT c L P0 false n (p :: r)) ++ kdT c L P0 (sbT c L P0 false n) r m (p + 1) := by
            rw [e0, if_neg hz]
          have hcc : cnD D (((p :: r) :: sbT c L P0 false n (p :: r)) ++ kdT c L P0 (sbT c L P0 false n) r m (p + 1)) = cnD D ((p :: r) :: sbT c L P0 false n (p :: r)) + cnD D (kdT c L P0 (sbT c L P0 false n) r m (p + 1)) := List.countP_append
          rw [e, hcc] at hsz
          obtain ⟨u1, u2, l1, l2, g3, T3, kr, kf⟩ := m_childN (F := FR) (T := []) hB h (by omega) hpc (by decide) (by decide) (by decide)
          have hS2 : rcM u2 S := ⟨(kf 38 (by decide) (by decide) (by decide)).trans hS.1, fun i Q hi => by rw [kr 149 (by omega) (by decide)]; exact hS.2 i Q hi⟩
          obtain ⟨u4, e4, g4, r4⟩ := ih fu (p :: r) S u2 (by omega) (by show r.length + 1 + n = D; omega) (by omega) T3 hS2 hok
          rw [show (p :: r).length = r.length + 1 from rfl] at e4
          have g34 : gr FR [] r.length u u4 := gr_tr g3 (gr_up g4)
          have hokl : ∀ τ ∈ (p :: r) :: sbT c L P0 false n (p :: r), okT c τ := by
            intro τ ht
            rcases List.mem_cons.mp ht with z | z
            · rw [z]; exact T3.2.2.2.2
            · exact ok_sb n (p :: r) (by show r.length + 1 + n ≤ 6; omega) T3.2.2.2.2 τ z
          obtain ⟨ok4, le4⟩ := hfold ((p :: r) :: sbT c L P0 false n (p :: r)) S hok hokl
          obtain ⟨u5, e5, g5, b5⟩ := ihm (p + 1) fu2 _ u4 (by omega) (by omega) (by omega) (tdN_gr h g34 (by decide) (by decide)) r4 ok4
          rw [e, List.foldl_append]
          refine ⟨u5, ?_, gr_tr g34 g5, b5⟩
          unfold L_X12_goReach_69
          rw [h.2.2.1, if_neg (nI_ge (by omega) (by omega)), if_pos ib1, bd_eq, cl1, m_refN hB h hpc, bc_eq, bd_eq, if_neg hz, if_pos (by decide), if_pos ib1, bd_eq, nI_1, if_pos ib2, bd_eq, cl2, l1, bv_eq, if_pos ib2, bd_eq, l2, bv_eq, e4, bv_eq]
          unfold J_X12_goReach_j133_1
          rw [bd_eq, nI_1, e5]
    have e0 : stR c L P0 D S r = S := if_neg (by omega)
    have es : sbT c L P0 false (n + 1) r = kdT c L P0 (sbT c L P0 false n) r c 0 := if_neg (fun z => by cases z.1)
    have hfu : c < FU := by unfold FU; omega
    have hcc : cnD D (r :: sbT c L P0 false (n + 1) r) = cnD D [r] + cnD D (sbT c L P0 false (n + 1) r) := List.countP_append (l₁ := [r]) (l₂ := sbT c L P0 false (n + 1) r)
    rw [hcc, es] at hsz
    obtain ⟨u1, k1, k2, k3⟩ := kids c 0 FU S u rfl hfu (by omega) h hS hok
    rw [nI_0] at k1
    show ∃ u1, _ ∧ _ ∧ rcM u1 ((sbT c L P0 false (n + 1) r).foldl (stR c L P0 D) (stR c L P0 D S r))
    rw [e0, es]
    refine ⟨u1, ?_, k2, k3⟩
    show B_X12_goReach _ _ _ u = _
    unfold B_X12_goReach
    rw [if_neg hne, k1]
end RE
