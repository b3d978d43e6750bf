/-! looks: both look ahead -/
def leF (c L : Nat) (P0 : Nat → Nat) (r : List Nat) : Int32 := nI (psT c L P0 r 12) - nI (psT c L P0 r 13)
/-- is the found value taken? -/
abbrev bkF (t : Nat) (s : Int32 × List Nat) (v : Int32) : Prop := s.2 = [] ∨ (t = 0 ∧ s.1 < v) ∨ (t ≠ 0 ∧ v < s.1)
def lkK (c L : Nat) (P0 : Nat → Nat) (f : List Nat → Int32 × List Nat) (r : List Nat) : Nat → Nat → Int32 × List Nat → Int32 × List Nat
  | 0, _, s => s
  | m + 1, p, s => lkK c L P0 f r m (p + 1) (if psT c L P0 r (psT c L P0 r 14 * c + p) = 0 then s else if bkF (psT c L P0 r 14) s (f (p :: r)).1 then ((f (p :: r)).1, p :: (f (p :: r)).2) else s)
def lkF (c L : Nat) (P0 : Nat → Nat) : Nat → List Nat → Int32 × List Nat
  | 0, r => (leF c L P0 r, [])
  | n + 1, r => if overS c (psT c L P0 r) = true then (leF c L P0 r, []) else lkK c L P0 (lkF c L P0 n) r c 0 (0, [])
theorem lkK_len {c L n : Nat} {P0 : Nat → Nat} {f : List Nat → Int32 × List Nat} (hf : ∀ r, (f r).2.length ≤ n) (r : List Nat) : ∀ m p s, s.2.length ≤ n + 1 → (lkK c L P0 f r m p s).2.length ≤ n + 1 := by
  intro m
  induction m with
  | zero => intro p s h; exact h
  | succ m ih =>
    intro p s h
    refine ih _ _ ?_
    split
    · exact h
    · split
      · show (f (p :: r)).2.length + 1 ≤ n + 1
        have := hf (p :: r)
        omega
      · exact h
theorem lkF_len {c L : Nat} {P0 : Nat → Nat} : ∀ n r, (lkF c L P0 n r).2.length ≤ n := by
  intro n
  induction n with
  | zero => intro r; exact Nat.le_refl _
  | succ n ih =>
    intro r
    unfold lkF
    split
    · exact Nat.zero_le _
    · exact lkK_len ih r c 0 (0, []) (Nat.zero_le _)
abbrev EL : List Nat := [91, 92, 93, 94, 95, 96, 54, 55, 56, 57, 58, 59, 60, 61, 62, 63, 64, 65, 66, 67, 68, 69, 70, 71, 72, 73, 74, 97]
/-- what lies at depth d and above stays -/
def lr (d : Nat) (w w1 : Wd) : Prop := qC EL [] w w1 ∧ (∀ a, 54 ≤ a → a < 57 + 3 * d → w1.1 a = w.1 a) ∧ (∀ i, i < d → w1.1 96 i = w.1 96 i) ∧ ∀ j, j < d → w1.1 (91 + j) = w.1 (91 + j)
def lnC (w : Wd) (d : Nat) (l : List Nat) : Prop := w.1 96 d = nI l.length ∧ ∀ k x, l[k]? = some x → w.1 (91 + d) k = nI x
section LK
variable {w w1 w2 u : Wd} {c L M d : Nat} {P0 : Nat → Nat}
theorem lr_rf (w : Wd) : lr d w w := ⟨qC_rf w, fun _ _ _ => rfl, fun _ _ => rfl, fun _ _ => rfl⟩
theorem lr_tr (h1 : lr d w w1) (h2 : lr d w1 w2) : lr d w w2 := ⟨qC_tr h1.1 h2.1, fun a x y => (h2.2.1 a x y).trans (h1.2.1 a x y), fun i hi => (h2.2.2.1 i hi).trans (h1.2.2.1 i hi), fun j hj => (h2.2.2.2 j hj).trans (h1.2.2.2 j hj)⟩
theorem lr_up (h : lr (d + 1) w w1) : lr d w w1 := ⟨h.1, fun a x y => h.2.1 a x (by omega), fun i hi => h.2.2.1 i (by omega), fun j hj => h.2.2.2 j (by omega)⟩
/-- what the class's look reads -/
def lkC (w : Wd) (c L M : Nat) (P0 : Nat → Nat) (r : List Nat) : Prop := isAt w (54 + 3 * r.length) c (psT c L P0 r) ∧ posC w ∧ w.1 87 6 = nI M ∧ w.1 87 7 = nI L ∧ okT c r
theorem lkC_lr {r : List Nat} (h : lkC w c L M P0 r) (g : lr r.length w w1) : lkC w1 c L M P0 r := by
  obtain ⟨a, b, e, f, ok⟩ := h
  have h87 := g.1.1.1 87 (by decide)
  refine ⟨?_, g.1.2 b, by rw [h87]; exact e, by rw [h87]; exact f, ok⟩
  unfold isAt at a ⊢
  rw [g.2.1 _ (by omega) (by omega), g.2.1 _ (by omega) (by omega), g.2.1 _ (by omega) (by omega)]
  exact a
theorem c_putA {p : Nat} {l : List Nat} (hd : d ≤ 3) (hl : l.length + 1 ≤ 4) (h : lnC w (d + 1) l) : ∃ w1, D_X10_putAhead (nI p) (nI d) w = some w1 ∧ lnC w1 d (p :: l) ∧ lr d w w1 := by
  have ib5 : ib (nI d) 5 = true := ib_nI (by omega) (by decide)
  have ib6 : ib (nI (d + 1)) 5 = true := ib_nI (by omega) (by decide)
  have cl1 : (nI d).toNatClampNeg = d := nI_clamp (by omega)
  have cl2 : (nI (d + 1)).toNatClampNeg = d + 1 := nI_clamp (by omega)
  have ln4 : ∀ j, j < 5 → ln (91 + j) = 4 := by decide
  have z0 : (0 : Int32).toNatClampNeg = 0 := by decide
  have z1 : (1 : Int32).toNatClampNeg = 1 := by decide
  have hcp : cpb 0 1 (nI l.length) 4 4 = true := by
    unfold cpb
    rw [nI_clamp (by omega), z0, z1]
    have h1 : (0 : Int32) ≤ nI l.length := nI_pos' (by omega)
    simp only [decide_eq_true h1, Bool.and_eq_true, decide_eq_true_eq]
    refine ⟨⟨⟨⟨by decide, by decide⟩, trivial⟩, by omega⟩, by omega⟩
  generalize hW : wR (wI w (91 + d) 0 (nI p)) (91 + d) (va_cpy ((wI w (91 + d) 0 (nI p)).1 (91 + (d + 1))) ((wI w (91 + d) 0 (nI p)).1 (91 + d)) 0 1 l.length) = W
  have b1 : but [91 + d, 96] w (wI W 96 d (nI (l.length + 1))) := by
    rw [← hW]
    exact but_tr (but_tr (but_wI (by simp)) (but_wR (by simp))) (but_wI (by simp))
  refine ⟨wI W 96 d (nI (l.length + 1)), ?_, ⟨wI_at, fun k x hk => ?_⟩, ⟨qC_hi (same_but (T := []) b1) (fun a ha => by
    simp only [List.mem_cons, List.not_mem_nil, or_false] at ha ⊢
    omega) (fun a ha => by
    simp only [List.mem_cons, List.not_mem_nil, or_false] at ha
    omega) (by simp), fun a h1 h2 => b1.1 a (by simp only [List.mem_cons, List.not_mem_nil, or_false]; omega), fun i hi => ?_, fun j hj => b1.1 _ (by simp only [List.mem_cons, List.not_mem_nil, or_false]; omega)⟩⟩
  · unfold D_X10_putAhead
    rw [nI_1, if_pos ib6, bd_eq, cl2, if_pos ib5, bd_eq, cl1, ln4 d (by omega), if_pos (by decide), bd_eq, z0, if_pos ib6, bd_eq, if_pos ib5, bd_eq, ln4 (d + 1) (by omega), ln4 d (by omega), h.1, if_pos hcp, bd_eq, wC_wR, nI_clamp (by omega), z0, z1, hW, if_pos ib5, bd_eq, nI_1]
  · rw [wI_r (by omega), ← hW, wR_self]
    unfold va_cpy
    cases k with
    | zero =>
      rw [if_neg (by omega)]
      cases hk
      exact wI_at
    | succ k =>
      have hk2 : l[k]? = some x := hk
      have hkl : k < l.length := (List.getElem?_eq_some_iff.mp hk2).1
      rw [if_pos (by omega), Nat.zero_add, Nat.add_sub_cancel, wI_r (by omega)]
      exact h.2 k x hk2
  · rw [wI_at_ne (by omega), ← hW, wR_ne (by omega), wI_r (by omega)]
theorem c_look (hB : okB c L (P0 14) P0) (hM : M ≤ 4) : ∀ (n fu : Nat) (r : List Nat) (w : Wd), n < fu → r.length + n = M → lkC w c L M P0 r → ∃ w1, E_X10_leadBehind fu (nI r.length) w = some ((lkF c L P0 n r).1, w1) ∧ lr r.length w w1 ∧ lnC w1 r.length (lkF c L P0 n r).2 := by
  have hc6 := hB.2.1
  intro n
  induction n with
  | zero =>
    intro fu r w hf hr h
    obtain ⟨fu, rfl⟩ : ∃ n', fu = n' + 1 := ⟨fu - 1, by omega⟩
    have hb : but [96] w (wI w 96 r.length 0) := but_wI (by simp)
    have g : lr r.length w (wI w 96 r.length 0) := ⟨qC_wI (by decide) (by decide), fun a h1 h2 => wI_r (by omega), fun i hi => wI_at_ne (by omega), fun j hj => wI_r (by omega)⟩
    have h' := lkC_lr h g
    refine ⟨wI w 96 r.length 0, ?_, g, ⟨by rw [wI_at]; rfl, fun k x hk => by cases hk⟩⟩
    show B_X10_leadBehind _ _ w = _
    unfold B_X10_leadBehind
    rw [if_pos (ib_nI (by omega) (by decide)), bd_eq, nI_clamp (by omega), if_pos (ib_nI (by omega) (by decide)), bd_eq, bd_eq, h'.2.2.1, if_pos (nI_le (by omega) (by omega))]
    unfold J_X10_leadBehind_j29_5
    rw [if_pos (by decide), if_pos (by decide), show (0 : Int32).toNatClampNeg = 0 from by decide, show (1 : Int32).toNatClampNeg = 1 from by decide, at_P h'.1 (by decide), at_P h'.1 (by decide)]
    rfl
  | succ n ih =>
    intro fu r w hf hr h
    obtain ⟨fu, rfl⟩ : ∃ n', fu = n' + 1 := ⟨fu - 1, by omega⟩
    have hP := (psT_ok (L := L) hB r h.2.2.2.2).1
    have h14 := hP.2.2.2.1
    have g : lr r.length w (wI w 96 r.length 0) := ⟨qC_wI (by decide) (by decide), fun a h1 h2 => wI_r (by omega), fun i hi => wI_at_ne (by omega), fun j hj => wI_r (by omega)⟩
    have h' := lkC_lr h g
    have hover : D_X5_isOver (54 + 3 * r.length) (wI w 96 r.length 0) = some (if overS c (psT c L P0 r) = true then 1 else 0, wI w 96 r.length 0) := by
      rw [d_isOver h'.1 hP.2.1 hP.2.2.2.1 hP.2.2.2.2.2]
      by_cases e : overS c (psT c L P0 r) = true
      · rw [if_pos e, if_pos (over_iff.mpr e)]
      · rw [if_neg e, if_neg (fun z => e (over_iff.mp z))]
    have hgo : E_X10_leadBehind (fu + 1) (nI r.length) w = if overS c (psT c L P0 r) = true then some (leF c L P0 r, wI w 96 r.length 0) else L_X10_leadBehind_48 (fun p1 w => E_X10_leadBehind fu p1 w) (nI r.length) (54 + 3 * r.length) J_X10_leadBehind_x164_4 FU 0 0 (wI w 96 r.length 0) := by
      show B_X10_leadBehind _ _ w = _
      unfold B_X10_leadBehind
      rw [if_pos (ib_nI (by omega) (by decide)), bd_eq, nI_clamp (by omega), if_pos (ib_nI (by omega) (by decide)), bd_eq, bd_eq, h'.2.2.1, if_neg (nI_ge (by omega) (by omega)), hover, bc_eq]
      by_cases e : overS c (psT c L P0 r) = true
      · rw [if_pos e, if_pos e, if_neg (by decide)]
        unfold J_X10_leadBehind_j29_5
        rw [if_pos (by decide), if_pos (by decide), show (0 : Int32).toNatClampNeg = 0 from by decide, show (1 : Int32).toNatClampNeg = 1 from by decide, at_P h'.1 (by decide), at_P h'.1 (by decide)]
        rfl
      · rw [if_neg e, if_neg e, if_pos rfl]
    have kids : ∀ (m p fu2 : Nat) (s : Int32 × List Nat) (w : Wd), m + p = c → m < fu2 → lkC w c L M P0 r → lnC w r.length s.2 → s.2.length ≤ n + 1 → ∃ w1, L_X10_leadBehind_48 (fun p1 w => E_X10_leadBehind fu p1 w) (nI r.length) (54 + 3 * r.length) J_X10_leadBehind_x164_4 fu2 s.1 (nI p) w = some ((lkK c L P0 (lkF c L P0 n) r m p s).1, w1) ∧ lr r.length w w1 ∧ lnC w1 r.length (lkK c L P0 (lkF c L P0 n) r m p s).2 := by
      intro m
      induction m with
      | zero =>
        intro p fu2 s w hp hf2 h hl hs
        obtain ⟨fu2, rfl⟩ : ∃ n', fu2 = n' + 1 := ⟨fu2 - 1, by omega⟩
        refine ⟨w, ?_, lr_rf w, hl⟩
        unfold L_X10_leadBehind_48
        rw [isAt_c h.1, if_pos (nI_le (by omega) (by omega))]
        rfl
      | succ m ihm =>
        intro p fu2 s w hp hf2 h hl hs
        obtain ⟨fu2, rfl⟩ : ∃ n', fu2 = n' + 1 := ⟨fu2 - 1, by omega⟩
        have hpc : p < c := by omega
        have hlen := h.2.2.2.2.1
        have hpos := isPos_T (i := r.length + 1) (by omega)
        have hpos0 := isPos_T (i := r.length) (by omega)
        obtain ⟨w2, t1, t2, t3, t4, t5⟩ := c_try (r := 54 + 3 * (r.length + 1)) (q := 54 + 3 * r.length) (v := 97) (p := p) (L := L) hpos hpos0 (by omega) (by omega) (by omega) h.1 (h.2.1 _ hpos) hP hpc
        have s2 := ihm (p + 1) fu2
        have ek : lkK c L P0 (lkF c L P0 n) r (m + 1) p s = lkK c L P0 (lkF c L P0 n) r m (p + 1) (if psT c L P0 r (psT c L P0 r 14 * c + p) = 0 then s else if bkF (psT c L P0 r 14) s (lkF c L P0 n (p :: r)).1 then ((lkF c L P0 n (p :: r)).1, p :: (lkF c L P0 n (p :: r)).2) else s) := rfl
        have lrOf : ∀ w3, but [54 + 3 * (r.length + 1), 54 + 3 * (r.length + 1) + 1, 54 + 3 * (r.length + 1) + 2, 97] w w3 → (∃ c P, isAt w3 (54 + 3 * (r.length + 1)) c P) → lr r.length w w3 := by
          intro w3 b hat
          refine ⟨qC_at (r := 54 + 3 * (r.length + 1)) hpos b (fun a ha => ?_) (fun a ha => ?_) hat, fun a h1 h2 => b.1 a ?_, fun i hi => by rw [b.1 96 (by simp only [List.mem_cons, List.not_mem_nil, or_false]; omega)], fun j hj => b.1 _ ?_⟩
          · simp only [List.mem_cons, List.not_mem_nil, or_false] at ha ⊢
            omega
          · simp only [List.mem_cons, List.not_mem_nil, or_false] at ha
            omega
          · simp only [List.mem_cons, List.not_mem_nil, or_false]
            omega
          · simp only [List.mem_cons, List.not_mem_nil, or_false]
            omega
        have lnKeep : ∀ {w3 : Wd} {l : List Nat}, lnC w r.length l → w3.1 96 r.length = w.1 96 r.length → w3.1 (91 + r.length) = w.1 (91 + r.length) → lnC w3 r.length l := fun hh e1 e2 => ⟨e1.trans hh.1, fun k x hk => by rw [e2]; exact hh.2 k x hk⟩
        have hstart : ∀ (K : Int32 → Wd → Option (Int32 × Wd)), True := fun _ => trivial
        have ib1 : ib (nI (r.length + 1)) 7 = true := ib_nI (by omega) (by decide)
        have cl2 : (nI (r.length + 1)).toNatClampNeg = r.length + 1 := nI_clamp (by omega)
        have l7 : w2.1 87 7 = nI L := by rw [t4.1 87 (by simp only [List.mem_cons, List.not_mem_nil, or_false]; omega)]; exact h.2.2.2.1
        rw [ek]
        by_cases hz : psT c L P0 r (psT c L P0 r 14 * c + p) = 0
        · rw [if_pos hz]
          have b2 : but [54 + 3 * (r.length + 1), 54 + 3 * (r.length + 1) + 1, 54 + 3 * (r.length + 1) + 2, 97] w w2 := but_sub t4 (by simp)
          have g2 := lrOf w2 b2 ⟨_, _, t2⟩
          obtain ⟨w5, e5, g5, n5⟩ := s2 s w2 (by omega) (by omega) (lkC_lr h g2) (lnKeep hl (by rw [b2.1 96 (by simp only [List.mem_cons, List.not_mem_nil, or_false]; omega)]) (b2.1 _ (by simp only [List.mem_cons, List.not_mem_nil, or_false]; omega))) hs
          refine ⟨w5, ?_, lr_tr g2 g5, n5⟩
          unfold L_X10_leadBehind_48
          rw [isAt_c h.1, if_neg (nI_ge (by omega) (by omega)), nI_1, if_pos ib1, bd_eq, cl2, t1, bv_eq, l7, t3 hz, bc_eq, bd_eq, if_pos rfl]
          unfold J_X10_leadBehind_j158_3
          rw [bd_eq, nI_1, e5]
        · rw [if_neg hz]
          obtain ⟨w3, y1, y2, -, -, -, -, -, y8⟩ := t5 hz
          have g3 := lrOf w3 y8 ⟨_, _, y2⟩
          have h3 := lkC_lr h g3
          have hk3 : lkC w3 c L M P0 (p :: r) := ⟨y2, h3.2.1, h3.2.2.1, h3.2.2.2.1, ⟨by show r.length + 1 ≤ 6; omega, fun x hx => by
            rcases List.mem_cons.mp hx with z | z
            · rw [z]; exact hpc
            · exact h.2.2.2.2.2 x z⟩⟩
          obtain ⟨w4, e4, g4, n4⟩ := ih fu (p :: r) w3 (by omega) (by show r.length + 1 + n = M; omega) hk3
          rw [show (p :: r).length = r.length + 1 from rfl] at e4 g4 n4
          have g34 : lr r.length w w4 := lr_tr g3 (lr_up g4)
          have hl4 : lnC w4 r.length s.2 := lnKeep hl ((g4.2.2.1 r.length (by omega)).trans (by rw [y8.1 96 (by simp only [List.mem_cons, List.not_mem_nil, or_false]; omega)])) ((g4.2.2.2 r.length (by omega)).trans (y8.1 _ (by simp only [List.mem_cons, List.not_mem_nil, or_false]; omega)))
          have hlf := lkF_len (c := c) (L := L) (P0 := P0) n (p :: r)
          generalize hv : lkF c L P0 n (p :: r) = v at e4 n4 hlf
          have hturn : w4.1 (54 + 3 * r.length) 3 = nI (psT c L P0 r 14) := isAt_m (lkC_lr h g34).1
          have ln0 : w4.1 96 r.length = nI s.2.length := hl4.1
          -- taken, not taken
          have yes : ∃ w1, J_X10_leadBehind_j148_1 (nI p) (nI r.length) (J_X10_leadBehind_j158_3 (L_X10_leadBehind_48 (fun p1 w => E_X10_leadBehind fu p1 w) (nI r.length) (54 + 3 * r.length) J_X10_leadBehind_x164_4 fu2) (nI p)) v.1 w4 = some ((lkK c L P0 (lkF c L P0 n) r m (p + 1) (v.1, p :: v.2)).1, w1) ∧ lr r.length w w1 ∧ lnC w1 r.length (lkK c L P0 (lkF c L P0 n) r m (p + 1) (v.1, p :: v.2)).2 := by
            obtain ⟨w5, e5, n5, g5⟩ := c_putA (p := p) (d := r.length) (by omega) (by omega) n4
            obtain ⟨w6, e6, g6, n6⟩ := s2 (v.1, p :: v.2) w5 (by omega) (by omega) (lkC_lr h (lr_tr g34 g5)) n5 (by show v.2.length + 1 ≤ n + 1; omega)
            refine ⟨w6, ?_, lr_tr g34 (lr_tr g5 g6), n6⟩
            unfold J_X10_leadBehind_j148_1
            rw [e5, bv_eq]
            unfold J_X10_leadBehind_j158_3
            rw [bd_eq, nI_1, e6]
          have no : ∃ w1, J_X10_leadBehind_j158_3 (L_X10_leadBehind_48 (fun p1 w => E_X10_leadBehind fu p1 w) (nI r.length) (54 + 3 * r.length) J_X10_leadBehind_x164_4 fu2) (nI p) s.1 w4 = some ((lkK c L P0 (lkF c L P0 n) r m (p + 1) s).1, w1) ∧ lr r.length w w1 ∧ lnC w1 r.length (lkK c L P0 (lkF c L P0 n) r m (p + 1) s).2 := by
            obtain ⟨w6, e6, g6, n6⟩ := s2 s w4 (by omega) (by omega) (lkC_lr h g34) hl4 hs
            refine ⟨w6, ?_, lr_tr g34 g6, n6⟩
            unfold J_X10_leadBehind_j158_3
            rw [bd_eq, nI_1, e6]
          have hmain : L_X10_leadBehind_48 (fun p1 w => E_X10_leadBehind fu p1 w) (nI r.length) (54 + 3 * r.length) J_X10_leadBehind_x164_4 (fu2 + 1) s.1 (nI p) w = if bkF (psT c L P0 r 14) s v.1 then J_X10_leadBehind_j148_1 (nI p) (nI r.length) (J_X10_leadBehind_j158_3 (L_X10_leadBehind_48 (fun p1 w => E_X10_leadBehind fu p1 w) (nI r.length) (54 + 3 * r.length) J_X10_leadBehind_x164_4 fu2) (nI p)) v.1 w4 else J_X10_leadBehind_j158_3 (L_X10_leadBehind_48 (fun p1 w => E_X10_leadBehind fu p1 w) (nI r.length) (54 + 3 * r.length) J_X10_leadBehind_x164_4 fu2) (nI p) s.1 w4 := by
            generalize hR : L_X10_leadBehind_48 (fun p1 w => E_X10_leadBehind fu p1 w) (nI r.length) (54 + 3 * r.length) J_X10_leadBehind_x164_4 fu2 = R
            unfold L_X10_leadBehind_48
            rw [isAt_c h.1, if_neg (nI_ge (by omega) (by omega)), nI_1, if_pos ib1, bd_eq, cl2, t1, bv_eq, l7, y1, bc_eq, bd_eq, if_neg (by decide), e4, bc_eq, bd_eq, hturn, hR]
            have j0 : J_X10_leadBehind_j132_2 (nI p) (nI r.length) (J_X10_leadBehind_j158_3 R (nI p)) v.1 s.1 0 w4 = if s.2 = [] then J_X10_leadBehind_j148_1 (nI p) (nI r.length) (J_X10_leadBehind_j158_3 R (nI p)) v.1 w4 else J_X10_leadBehind_j158_3 R (nI p) s.1 w4 := by
              unfold J_X10_leadBehind_j132_2
              rw [bd_eq, if_pos rfl, if_pos (ib_nI (by omega) (by decide)), nI_clamp (by omega), ln0]
              by_cases hn : s.2 = []
              · rw [if_pos hn, if_pos (by rw [hn]; rfl)]
              · rw [if_neg hn, if_neg (by
                  rw [nI_z (by omega)]
                  intro z
                  exact hn (List.length_eq_zero_iff.mp z))]
            have j1 : J_X10_leadBehind_j132_2 (nI p) (nI r.length) (J_X10_leadBehind_j158_3 R (nI p)) v.1 s.1 1 w4 = J_X10_leadBehind_j148_1 (nI p) (nI r.length) (J_X10_leadBehind_j158_3 R (nI p)) v.1 w4 := by
              unfold J_X10_leadBehind_j132_2
              rw [bd_eq, if_neg (by decide)]
            by_cases ht : psT c L P0 r 14 = 0
            · rw [if_pos (by rw [ht]; rfl)]
              by_cases hle : v.1 ≤ s.1
              · rw [if_pos hle, j0]
                by_cases hn : s.2 = []
                · rw [if_pos hn, if_pos (show bkF _ s v.1 from Or.inl hn)]
                · rw [if_neg hn, if_neg (show ¬ bkF _ s v.1 from fun z => z.elim hn (fun z => z.elim (fun z => absurd z.2 (Int32.not_lt.mpr hle)) (fun z => z.1 ht)))]
              · rw [if_neg hle, j1, if_pos (show bkF _ s v.1 from Or.inr (Or.inl ⟨ht, Int32.not_le.mp hle⟩))]
            · rw [if_neg (by rw [nI_z (by omega)]; exact ht)]
              by_cases hle : s.1 ≤ v.1
              · rw [if_pos hle, j0]
                by_cases hn : s.2 = []
                · rw [if_pos hn, if_pos (show bkF _ s v.1 from Or.inl hn)]
                · rw [if_neg hn, if_neg (show ¬ bkF _ s v.1 from fun z => z.elim hn (fun z => z.elim (fun z => ht z.1) (fun z => absurd z.2 (Int32.not_lt.mpr hle))))]
              · rw [if_neg hle, j1, if_pos (show bkF _ s v.1 from Or.inr (Or.inr ⟨ht, Int32.not_le.mp hle⟩))]
          rw [hmain]
          by_cases hb : bkF (psT c L P0 r 14) s v.1
          · rw [if_pos hb, if_pos hb]
            exact yes
          · rw [if_neg hb, if_neg hb]
            exact no
    have el : lkF c L P0 (n + 1) r = if overS c (psT c L P0 r) = true then (leF c L P0 r, []) else lkK c L P0 (lkF c L P0 n) r c 0 (0, []) := rfl
    rw [hgo, el]
    have hln0 : lnC (wI w 96 r.length 0) r.length [] := ⟨by rw [wI_at]; rfl, fun k x hk => by cases hk⟩
    by_cases e : overS c (psT c L P0 r) = true
    · rw [if_pos e, if_pos e]
      exact ⟨_, rfl, g, hln0⟩
    · have hfu : c < FU := by unfold FU; omega
      obtain ⟨w1, k1, k2, k3⟩ := kids c 0 FU (0, []) _ rfl hfu h' hln0 (Nat.zero_le _)
      rw [nI_0] at k1
      rw [if_neg e, if_neg e]
      exact ⟨w1, k1, lr_tr g k2, k3⟩
end LK
