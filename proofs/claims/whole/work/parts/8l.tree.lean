/-! the nodes of the tree, in their order; a node is its path, the last MOVE first -/
def psT (c L : Nat) (P0 : Nat → Nat) : List Nat → (Nat → Nat)
  | [] => P0
  | p :: r => mvP c L (psT c L P0 r 14) p (psT c L P0 r)
def kdT (c L : Nat) (P0 : Nat → Nat) (f : List Nat → List (List Nat)) (r : List Nat) : Nat → Nat → List (List Nat)
  | 0, _ => []
  | m + 1, p => (if psT c L P0 r (psT c L P0 r 14 * c + p) = 0 then [] else (p :: r) :: f (p :: r)) ++ kdT c L P0 f r m (p + 1)
def sbT (c L : Nat) (P0 : Nat → Nat) (ot : Bool) : Nat → List Nat → List (List Nat)
  | 0, _ => []
  | n + 1, r => if ot = true ∧ psT c L P0 r 14 ≠ P0 14 then [] else kdT c L P0 (sbT c L P0 ot n) r c 0
/-- the nodes behind a node and all that are under it -/
def rsT (c L : Nat) (P0 : Nat → Nat) (ot : Bool) (M : Nat) : List Nat → List (List Nat)
  | [] => []
  | p :: r => kdT c L P0 (sbT c L P0 ot (M - r.length - 1)) r (c - (p + 1)) (p + 1) ++ rsT c L P0 ot M r
def szT (c : Nat) : Nat → Nat
  | 0 => 0
  | n + 1 => c * (szT c n + 1)
theorem kdT_len {c L : Nat} {P0 : Nat → Nat} {f : List Nat → List (List Nat)} {z : Nat} (hf : ∀ r, (f r).length ≤ z) (r : List Nat) : ∀ m p, (kdT c L P0 f r m p).length ≤ m * (z + 1) := by
  intro m
  induction m with
  | zero => intro p; exact Nat.zero_le _
  | succ m ih =>
    intro p
    unfold kdT
    rw [List.length_append, Nat.succ_mul]
    have h1 := ih (p + 1)
    have h2 : (if psT c L P0 r (psT c L P0 r 14 * c + p) = 0 then [] else (p :: r) :: f (p :: r)).length ≤ z + 1 := by
      split
      · exact Nat.zero_le _
      · show (f (p :: r)).length + 1 ≤ z + 1
        have := hf (p :: r)
        omega
    omega
theorem sbT_len {c L : Nat} {P0 : Nat → Nat} {ot : Bool} : ∀ n r, (sbT c L P0 ot n r).length ≤ szT c n := by
  intro n
  induction n with
  | zero => intro r; exact Nat.le_refl _
  | succ n ih =>
    intro r
    unfold sbT szT
    split
    · exact Nat.zero_le _
    · exact kdT_len ih r c 0
theorem szT_le {c n : Nat} (hc : c ≤ 6) (hn : n ≤ 6) : szT c n < 60000 := by
  have h : ∀ n, szT c n ≤ szT 6 n := by
    intro n
    induction n with
    | zero => exact Nat.le_refl _
    | succ n ih => exact Nat.mul_le_mul hc (by omega)
  have h6 : ∀ n, n ≤ 6 → szT 6 n < 60000 := by decide
  exact Nat.lt_of_le_of_lt (h n) (h6 n hn)
abbrev ET : List Nat := [54, 55, 56, 57, 58, 59, 60, 61, 62, 63, 64, 65, 66, 67, 68, 69, 70, 71, 72, 73, 74, 87, 89, 97]
def okT (c : Nat) (r : List Nat) : Prop := r.length ≤ 6 ∧ ∀ p ∈ r, p < c
theorem okT_tl {c p : Nat} {r : List Nat} (h : okT c (p :: r)) : okT c r ∧ p < c ∧ r.length ≤ 5 := by
  have h1 := h.1
  have : (p :: r).length = r.length + 1 := rfl
  exact ⟨⟨by omega, fun q hq => h.2 q (List.mem_cons_of_mem _ hq)⟩, h.2 p List.mem_cons_self, by omega⟩
theorem psT_ok {c L : Nat} {P0 : Nat → Nat} (hB : okB c L (P0 14) P0) : ∀ r, okT c r → okB c L (psT c L P0 r 14) (psT c L P0 r) ∧ tot (psT c L P0 r) = tot P0 := by
  intro r
  induction r with
  | nil => intro _; exact ⟨hB, rfl⟩
  | cons p r ih =>
    intro h
    obtain ⟨h1, h2, -⟩ := okT_tl h
    obtain ⟨i1, i2⟩ := ih h1
    exact ⟨okB_mv i1 h2, (mvP_14 i1 h2).2.trans i2⟩
section TR
variable {w w1 : Wd} {c L M : Nat} {P0 : Nat → Nat} {ot : Bool}
/-- what the class's tree holds of a path -/
def trT (w : Wd) (c L : Nat) (P0 : Nat → Nat) : List Nat → Prop
  | [] => isAt w 54 c P0
  | p :: r => isAt w (54 + 3 * (r.length + 1)) c (psT c L P0 (p :: r)) ∧ w.1 89 r.length = nI p ∧ trT w c L P0 r
def TS (w : Wd) (c L : Nat) (P0 : Nat → Nat) (ot : Bool) (M : Nat) (r : List Nat) : Prop := w.1 87 5 = nI r.length ∧ w.1 87 6 = nI M ∧ w.1 87 7 = nI L ∧ w.1 87 8 = (if ot = true then 1 else 0) ∧ trT w c L P0 r ∧ posC w ∧ okT c r ∧ r.length ≤ M
theorem trT_keep : ∀ r : List Nat, (∀ a, 54 ≤ a → a < 57 + 3 * r.length → w1.1 a = w.1 a) → (∀ i, i < r.length → w1.1 89 i = w.1 89 i) → trT w c L P0 r → trT w1 c L P0 r := by
  intro r
  induction r with
  | nil =>
    intro h1 h2 h
    unfold trT isAt at h ⊢
    rw [h1 54 (by omega) (by omega), h1 (54 + 1) (by omega) (by decide), h1 (54 + 2) (by omega) (by decide)]
    exact h
  | cons p r ih =>
    intro h1 h2 h
    have hl : (p :: r).length = r.length + 1 := rfl
    obtain ⟨a, b, d⟩ := h
    refine ⟨?_, by rw [h2 r.length (by omega)]; exact b, ih (fun a x y => h1 a x (by omega)) (fun i hi => h2 i (by omega)) d⟩
    unfold isAt at a ⊢
    rw [h1 _ (by omega) (by omega), h1 _ (by omega) (by omega), h1 _ (by omega) (by omega)]
    exact a
theorem trT_top : ∀ r : List Nat, trT w c L P0 r → isAt w (54 + 3 * r.length) c (psT c L P0 r) := by
  intro r h
  cases r with
  | nil => exact h
  | cons p r => exact h.1
theorem trT_root : ∀ r : List Nat, trT w c L P0 r → isAt w 54 c P0 := by
  intro r
  induction r with
  | nil => intro h; exact h
  | cons p r ih => intro h; exact ih h.2.2
theorem isPos_T {i : Nat} (h : i ≤ 6) : isPos (54 + 3 * i) := ⟨by omega, by omega⟩
/-- the children from p on: the first of them is entered -/
theorem d_enter (f : List Nat → List (List Nat)) (hB : okB c L (P0 14) P0) {r : List Nat} (h : TS w c L P0 ot M r) (hr : r.length < M) (hM : M ≤ 6) : ∀ (m p : Nat), m + p = c → (D_X10_enter (nI p) w = some (0, w) ∧ kdT c L P0 f r m p = []) ∨ ∃ q w1, D_X10_enter (nI p) w = some (1, w1) ∧ TS w1 c L P0 ot M (q :: r) ∧ qC ET [] w w1 ∧ kdT c L P0 f r m p = (q :: r) :: (f (q :: r) ++ kdT c L P0 f r (c - (q + 1)) (q + 1)) := by
  obtain ⟨t5, t6, t7, t8, tr, tp, ok, tM⟩ := h
  obtain ⟨hP, -⟩ := psT_ok (L := L) hB r ok
  have top := trT_top r tr
  have h6 := hB.2.1
  -- the search, in calls
  have key : ∀ (m p fu : Nat), m + p = c → m < fu → (L_X10_enter_12 (54 + 3 * r.length) (J_X10_enter_x28_1 (54 + 3 * r.length)) J_X10_enter_x95_2 fu (nI p) w = some (0, w) ∧ kdT c L P0 f r m p = []) ∨ ∃ q, p ≤ q ∧ q < c ∧ psT c L P0 r (psT c L P0 r 14 * c + q) ≠ 0 ∧ L_X10_enter_12 (54 + 3 * r.length) (J_X10_enter_x28_1 (54 + 3 * r.length)) J_X10_enter_x95_2 fu (nI p) w = J_X10_enter_x28_1 (54 + 3 * r.length) (nI q) w ∧ kdT c L P0 f r m p = (q :: r) :: (f (q :: r) ++ kdT c L P0 f r (c - (q + 1)) (q + 1)) := by
    intro m
    induction m with
    | zero =>
      intro p fu hp hf
      obtain ⟨fu, rfl⟩ : ∃ n', fu = n' + 1 := ⟨fu - 1, by omega⟩
      refine Or.inl ⟨?_, rfl⟩
      unfold L_X10_enter_12
      rw [isAt_c top, if_pos (nI_le (by omega) (by omega))]
      rfl
    | succ m ih =>
      intro p fu hp hf
      obtain ⟨fu, rfl⟩ : ∃ n', fu = n' + 1 := ⟨fu - 1, by omega⟩
      have hcm := d_canMove top h6 hP.2.2.2.1 hP.2.2.2.2.2 (p := p) (by omega)
      unfold L_X10_enter_12
      rw [isAt_c top, if_neg (nI_ge (by omega) (by omega)), hcm, bc_eq]
      by_cases hz : psT c L P0 r (psT c L P0 r 14 * c + p) = 0
      · have e : kdT c L P0 f r (m + 1) p = kdT c L P0 f r m (p + 1) := by
          show (if psT c L P0 r (psT c L P0 r 14 * c + p) = 0 then [] else (p :: r) :: f (p :: r)) ++ kdT c L P0 f r m (p + 1) = _
          rw [if_pos hz]
          rfl
        rw [if_pos (show (if psT c L P0 r (psT c L P0 r 14 * c + p) = 0 then (0 : Int32) else 1) = 0 by rw [if_pos hz]), bd_eq, nI_1, e]
        rcases ih (p + 1) fu (by omega) (by omega) with h | ⟨q, a, b⟩
        · exact Or.inl h
        · exact Or.inr ⟨q, by omega, b⟩
      · have e : kdT c L P0 f r (m + 1) p = (p :: r) :: (f (p :: r) ++ kdT c L P0 f r (c - (p + 1)) (p + 1)) := by
          show (if psT c L P0 r (psT c L P0 r 14 * c + p) = 0 then [] else (p :: r) :: f (p :: r)) ++ kdT c L P0 f r m (p + 1) = _
          rw [if_neg hz, show c - (p + 1) = m by omega]
          rfl
        rw [if_neg (show ¬ (if psT c L P0 r (psT c L P0 r 14 * c + p) = 0 then (0 : Int32) else 1) = 0 by rw [if_neg hz]; decide)]
        exact Or.inr ⟨p, Nat.le_refl _, by omega, hz, rfl, e⟩
  intro m p hp
  have hen : D_X10_enter (nI p) w = L_X10_enter_12 (54 + 3 * r.length) (J_X10_enter_x28_1 (54 + 3 * r.length)) J_X10_enter_x95_2 FU (nI p) w := by
    unfold D_X10_enter
    rw [t5, if_pos (ib_nI (by omega) (by decide)), bd_eq, nI_clamp (by omega)]
  rw [hen]
  rcases key m p FU hp (by unfold FU; omega) with h | ⟨q, a, b, hz, e1, e2⟩
  · exact Or.inl h
  · refine Or.inr ⟨q, ?_⟩
    have hpos := isPos_T (i := r.length + 1) (by omega)
    obtain ⟨c', P', z⟩ := tp _ hpos
    have htk := d_take (w := w) (q := 54 + 3 * (r.length + 1)) (by omega) (by omega) (by omega) z top
    have at1 : isAt (pW w (54 + 3 * (r.length + 1)) c (psT c L P0 r)) (54 + 3 * (r.length + 1)) c (psT c L P0 r) := pW_at _ _ _ _
    generalize hw2 : pW w (54 + 3 * (r.length + 1)) c (psT c L P0 r) = w2 at htk at1
    have b2 : but [54 + 3 * (r.length + 1), 54 + 3 * (r.length + 1) + 1, 54 + 3 * (r.length + 1) + 2] w w2 := by rw [← hw2]; exact pW_but
    have f87 : w2.1 87 = w.1 87 := b2.1 87 (by simp only [List.mem_cons, List.not_mem_nil, or_false]; omega)
    have hmk := d_make (w := w2) (v := 97) (q := 54 + 3 * (r.length + 1)) (f := w2.1 97) (by omega) hP b hz
    rw [VW_same at1] at hmk
    generalize hw3 : VW w2 97 (54 + 3 * (r.length + 1)) c (mvP c L (psT c L P0 r 14) q (psT c L P0 r)) _ = w3 at hmk
    have at3 : isAt w3 (54 + 3 * (r.length + 1)) c (psT c L P0 (q :: r)) := by rw [← hw3]; exact VW_at (by omega)
    have b3 : but [54 + 3 * (r.length + 1), 54 + 3 * (r.length + 1) + 1, 54 + 3 * (r.length + 1) + 2, 97] w2 w3 := by rw [← hw3]; exact but_VW (by simp) (by simp) (by simp) (by simp)
    have g87 : w3.1 87 = w.1 87 := (b3.1 87 (by simp only [List.mem_cons, List.not_mem_nil, or_false]; omega)).trans f87
    have k3 : ∀ a, (a < 54 + 3 * (r.length + 1) ∨ 54 + 3 * (r.length + 1) + 2 < a) → a ≠ 97 → w3.1 a = w.1 a := fun a h1 h2 => (b3.1 a (by simp only [List.mem_cons, List.not_mem_nil, or_false]; omega)).trans (b2.1 a (by simp only [List.mem_cons, List.not_mem_nil, or_false]; omega))
    have b13 : but [54 + 3 * (r.length + 1), 54 + 3 * (r.length + 1) + 1, 54 + 3 * (r.length + 1) + 2, 97, 89, 87] w (wI (wI w3 89 r.length (nI q)) 87 5 (nI (r.length + 1))) := but_tr (but_tr (but_sub b2 (by simp)) (but_sub b3 (by simp))) (but_tr (but_wI (by simp)) (but_wI (by simp)))
    have at5 : isAt (wI (wI w3 89 r.length (nI q)) 87 5 (nI (r.length + 1))) (54 + 3 * (r.length + 1)) c (psT c L P0 (q :: r)) := by
      unfold isAt at at3 ⊢
      rw [wI_r (by omega), wI_r (by omega), wI_r (by omega), wI_r (by omega), wI_r (by omega), wI_r (by omega)]
      exact at3
    have hq5 : qC ET [] w (wI (wI w3 89 r.length (nI q)) 87 5 (nI (r.length + 1))) := by
      refine qC_at (r := 54 + 3 * (r.length + 1)) hpos b13 (fun a ha => ?_) (fun a ha => ?_) ⟨_, _, at5⟩
      · simp only [List.mem_cons, List.not_mem_nil, or_false] at ha ⊢
        omega
      · simp only [List.mem_cons, List.not_mem_nil, or_false] at ha
        omega
    refine ⟨wI (wI w3 89 r.length (nI q)) 87 5 (nI (r.length + 1)), ?_, ⟨wI_at, ?_, ?_, ?_, ⟨at5, ?_, ?_⟩, hq5.2 tp, ⟨by show r.length + 1 ≤ 6; omega, fun x hx => ?_⟩, by show r.length + 1 ≤ M; omega⟩, hq5, e2⟩
    · rw [e1]
      unfold J_X10_enter_x28_1
      rw [t5, nI_1, if_pos (ib_nI (by omega) (by decide)), bd_eq, nI_clamp (by omega), htk, bv_eq, f87, t5, nI_1, if_pos (ib_nI (by omega) (by decide)), bd_eq, nI_clamp (by omega), t7, hmk, bc_eq, g87, t5, if_pos (ib_nI (by omega) (by decide)), bd_eq, nI_clamp (by omega), wI_r (by decide), g87, t5, nI_1, bd_eq]
    · rw [wI_at_ne (by decide), wI_r (by decide), g87]; exact t6
    · rw [wI_at_ne (by decide), wI_r (by decide), g87]; exact t7
    · rw [wI_at_ne (by decide), wI_r (by decide), g87]; exact t8
    · rw [wI_r (by decide), wI_at]
    · refine trT_keep r (fun a h1 h2 => ?_) (fun i hi => ?_) tr
      · rw [wI_r (by omega), wI_r (by omega), k3 a (by omega) (by omega)]
      · rw [wI_r (by decide), wI_at_ne (by omega), k3 89 (by omega) (by decide)]
    · rcases List.mem_cons.mp hx with e | e
      · rw [e]; exact b
      · exact ok.2 x e
/-- the next node behind all that is under this one -/
theorem d_climb (hB : okB c L (P0 14) P0) (hM : M ≤ 6) : ∀ (r : List Nat) (w : Wd) (fu : Nat), r.length < fu → TS w c L P0 ot M r → (∃ w1, L_X10_step_57 J_X10_step_x92_1 J_X10_step_x94_2 fu w = some (0, w1) ∧ qC ET [] w w1 ∧ rsT c L P0 ot M r = []) ∨ ∃ q w1, L_X10_step_57 J_X10_step_x92_1 J_X10_step_x94_2 fu w = some (1, w1) ∧ qC ET [] w w1 ∧ TS w1 c L P0 ot M q ∧ rsT c L P0 ot M r = q :: (sbT c L P0 ot (M - q.length) q ++ rsT c L P0 ot M q) := by
  intro r
  induction r with
  | nil =>
    intro w fu hf h
    obtain ⟨fu, rfl⟩ : ∃ n', fu = n' + 1 := ⟨fu - 1, by have : ([] : List Nat).length = 0 := rfl; omega⟩
    refine Or.inl ⟨w, ?_, qC_rf w, rfl⟩
    unfold L_X10_step_57
    rw [h.1, if_pos (by decide)]
    rfl
  | cons p r ih =>
    intro w fu hf h
    have hl : (p :: r).length = r.length + 1 := rfl
    obtain ⟨fu, rfl⟩ : ∃ n', fu = n' + 1 := ⟨fu - 1, by omega⟩
    obtain ⟨t5, t6, t7, t8, ⟨tr1, tr2, tr3⟩, tp, ok, tM⟩ := h
    obtain ⟨ok1, hp, -⟩ := okT_tl ok
    rw [hl] at t5 tM
    have q1 : qC ET [] w (wI w 87 5 (nI r.length)) := qC_wI (by decide) (by decide)
    have T1 : TS (wI w 87 5 (nI r.length)) c L P0 ot M r := ⟨wI_at, by rw [wI_at_ne (by decide)]; exact t6, by rw [wI_at_ne (by decide)]; exact t7, by rw [wI_at_ne (by decide)]; exact t8, trT_keep r (fun a h1 h2 => wI_r (by have := ok1.1; omega)) (fun i hi => by rw [wI_r (by decide)]) tr3, q1.2 tp, ok1, by omega⟩
    have row : (wI w 87 5 (nI r.length)).1 89 r.length = nI p := by rw [wI_r (by decide)]; exact tr2
    have e : rsT c L P0 ot M (p :: r) = kdT c L P0 (sbT c L P0 ot (M - r.length - 1)) r (c - (p + 1)) (p + 1) ++ rsT c L P0 ot M r := rfl
    have go : L_X10_step_57 J_X10_step_x92_1 J_X10_step_x94_2 (fu + 1) w = bc (D_X10_enter (nI (p + 1)) (wI w 87 5 (nI r.length))) fun x12 w11 => if x12 = 0 then (L_X10_step_57 J_X10_step_x92_1 J_X10_step_x94_2 fu w11) else (J_X10_step_x92_1 w11) := by
      show (if (w.1 87 5) ≤ 0 then _ else _) = _
      rw [t5, if_neg (by rw [nI_le0 (by omega)]; omega), nI_m1 (by omega), Nat.add_sub_cancel, bd_eq, wI_at, if_pos (ib_nI (by omega) (by decide)), nI_clamp (by omega), row, nI_1]
    rw [go, e]
    rcases d_enter (sbT c L P0 ot (M - r.length - 1)) hB T1 (by omega) hM (c - (p + 1)) (p + 1) (by omega) with ⟨e1, e2⟩ | ⟨q, w2, e1, T2, q2, e2⟩
    · rw [e1, bc_eq, if_pos rfl, e2]
      rcases ih _ fu (by omega) T1 with ⟨w3, f1, f2, f3⟩ | ⟨s, w3, f1, f2, f3, f4⟩
      · exact Or.inl ⟨w3, f1, qC_tr q1 f2, f3⟩
      · exact Or.inr ⟨s, w3, f1, qC_tr q1 f2, f3, f4⟩
    · rw [e1, bc_eq, if_neg (by decide), e2]
      refine Or.inr ⟨q :: r, w2, rfl, qC_tr q1 q2, T2, ?_⟩
      show (q :: r) :: _ ++ _ = _
      have e3 : rsT c L P0 ot M (q :: r) = kdT c L P0 (sbT c L P0 ot (M - r.length - 1)) r (c - (q + 1)) (q + 1) ++ rsT c L P0 ot M r := rfl
      rw [e3, show M - (q :: r).length = M - r.length - 1 by show M - (r.length + 1) = _; omega, List.cons_append, List.append_assoc]
/-- one step: the next node of all -/
theorem d_step (hB : okB c L (P0 14) P0) (hM : M ≤ 6) {r : List Nat} (h : TS w c L P0 ot M r) : (∃ w1, D_X10_step w = some (0, w1) ∧ qC ET [] w w1 ∧ sbT c L P0 ot (M - r.length) r ++ rsT c L P0 ot M r = []) ∨ ∃ q w1, D_X10_step w = some (1, w1) ∧ qC ET [] w w1 ∧ TS w1 c L P0 ot M q ∧ sbT c L P0 ot (M - r.length) r ++ rsT c L P0 ot M r = q :: (sbT c L P0 ot (M - q.length) q ++ rsT c L P0 ot M q) := by
  have hT := h
  obtain ⟨t5, t6, t7, t8, tr, tp, ok, tM⟩ := h
  obtain ⟨hP, -⟩ := psT_ok (L := L) hB r ok
  have top := trT_top r tr
  have root := trT_root r tr
  have climb := d_climb hB hM r w FU (by unfold FU; omega) hT
  have h14 := hP.2.2.2.1
  have h014 := hB.2.2.2.1
  have hst : D_X10_step w = J_X10_step_j31_5 (if ot = true ∧ psT c L P0 r 14 ≠ P0 14 then 1 else 0) w := by
    unfold D_X10_step
    rw [bd_eq, bd_eq, t8]
    cases ot with
    | false =>
      rw [if_pos (by decide), if_neg (by simp)]
      rfl
    | true =>
      rw [if_neg (by decide)]
      unfold D_X10_here
      rw [t5, if_pos (ib_nI (by omega) (by decide)), bd_eq, nI_clamp (by omega), bc_eq, if_pos (by decide), bd_eq, isAt_m top, show 54 + 3 * (0 : Int32).toNatClampNeg = 54 from by decide, isAt_m root]
      by_cases he : psT c L P0 r 14 = P0 14
      · rw [if_pos (by rw [he]), if_neg (fun z => z.2 he)]
        rfl
      · rw [if_neg (by rw [nI_eq (by omega) (by omega)]; exact he), if_pos ⟨rfl, he⟩]
  rw [hst]
  unfold J_X10_step_j31_5 J_X10_step_j57_3
  rw [bd_eq, t6, t5]
  by_cases hm : M ≤ r.length
  · rw [if_pos (nI_le hm (by omega)), show M - r.length = 0 by omega]
    show (∃ w1, L_X10_step_57 _ _ _ _ = _ ∧ _ ∧ rsT c L P0 ot M r = []) ∨ ∃ q w1, L_X10_step_57 _ _ _ _ = _ ∧ _ ∧ _ ∧ rsT c L P0 ot M r = _
    exact climb
  · rw [if_neg (nI_ge (by omega) (by omega))]
    obtain ⟨n, hn⟩ : ∃ n, M - r.length = n + 1 := ⟨M - r.length - 1, by omega⟩
    rw [hn, show sbT c L P0 ot (n + 1) r = if ot = true ∧ psT c L P0 r 14 ≠ P0 14 then [] else kdT c L P0 (sbT c L P0 ot n) r c 0 from rfl]
    by_cases hx : ot = true ∧ psT c L P0 r 14 ≠ P0 14
    · rw [if_pos hx, if_pos hx, if_neg (by decide)]
      exact climb
    · rw [if_neg hx, if_neg hx, if_pos rfl]
      rcases d_enter (sbT c L P0 ot n) hB hT (by omega) hM c 0 rfl with ⟨e1, e2⟩ | ⟨q, w2, e1, T2, q2, e2⟩
      · rw [nI_0] at e1
        rw [e1, bc_eq, if_pos rfl, e2]
        exact climb
      · rw [nI_0] at e1
        rw [e1, bc_eq, if_neg (by decide), e2]
        refine Or.inr ⟨q :: r, w2, rfl, q2, T2, ?_⟩
        have e3 : rsT c L P0 ot M (q :: r) = kdT c L P0 (sbT c L P0 ot (M - r.length - 1)) r (c - (q + 1)) (q + 1) ++ rsT c L P0 ot M r := rfl
        rw [e3, show M - (q :: r).length = n by show M - (r.length + 1) = n; omega, show M - r.length - 1 = n by omega, List.cons_append, List.append_assoc]
end TR
