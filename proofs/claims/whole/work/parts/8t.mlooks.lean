/-! looks: the reference, and the answer -/
abbrev FL : List Nat := [19, 20, 21]
def lrM (d : Nat) (u u1 : Wd) : Prop := gr FL [] d u u1 ∧ (∀ i, i < d → u1.1 148 i = u.1 148 i) ∧ ∀ j, j < d → u1.1 (143 + j) = u.1 (143 + j)
def lnM (u : Wd) (d : Nat) (l : List Nat) : Prop := u.1 148 d = nI l.length ∧ ∀ k x, l[k]? = some x → u.1 (143 + d) k = nI x
section ML
variable {w u u1 u2 : Wd} {c L M d : Nat} {P0 : Nat → Nat}
theorem lrM_rf (u : Wd) : lrM d u u := ⟨gr_rf u, fun _ _ => rfl, fun _ _ => rfl⟩
theorem lrM_tr (h1 : lrM d u u1) (h2 : lrM d u1 u2) : lrM d u u2 := ⟨gr_tr h1.1 h2.1, fun i hi => (h2.2.1 i hi).trans (h1.2.1 i hi), fun j hj => (h2.2.2 j hj).trans (h1.2.2 j hj)⟩
theorem lrM_up (h : lrM (d + 1) u u1) : lrM d u u1 := ⟨gr_up h.1, fun i hi => h.2.1 i (by omega), fun j hj => h.2.2 j (by omega)⟩
theorem lrM_148 {v : Int32} (h6 : d ≤ 4) : lrM d u (wI u 148 d v) := ⟨⟨sameR_r (by decide) (by decide), fun m => arrM_same (E := [148]) (F := []) (T := []) (Z := []) m (sameR_r (by simp) (by decide)) (by decide), fun a h1 h2 => wI_r (by omega), fun i hi => by rw [wI_r (by decide)]⟩, fun i hi => wI_at_ne (by omega), fun j hj => wI_r (by omega)⟩
theorem lrM_row {k : Nat} {v : Int32} (h4 : d ≤ 4) : lrM d u (wI u (143 + d) k v) := ⟨⟨sameR_r (by simp only [List.mem_cons, List.not_mem_nil, or_false]; omega) (by omega), fun m => arrM_same (E := [143 + d]) (F := []) (T := []) (Z := []) m (sameR_r (by simp) (by omega)) (fun a ha => by rw [List.mem_singleton.mp ha]; omega), fun a h1 h2 => wI_r (by omega), fun i hi => by rw [wI_r (by omega)]⟩, fun i hi => by rw [wI_r (by omega)], fun j hj => wI_r (by omega)⟩
theorem m_cpy {k41 : Wd → Option (Int32 × Wd)} {rec : Int32 → Int32 → Wd → Option (Int32 × Wd)} {x36 x38 x39 x40 : Int32} {q37 p : Nat} {l : List Nat} (hd : d ≤ 3) (hl : l.length ≤ 3) (h : lnM u (d + 1) l) : ∀ (n i fu : Nat) (u1 : Wd), n + i = l.length → n < fu → lrM d u u1 → (∀ a, a ≠ 143 + d → u1.1 a = u.1 a) → u1.1 (143 + d) 0 = nI p → (∀ k x, k < i → l[k]? = some x → u1.1 (143 + d) (k + 1) = nI x) → ∃ u2, L_X12_look_161 rec (nI d) x36 q37 x38 x39 x40 k41 fu (nI i) u1 = k41 u2 ∧ lrM d u u2 ∧ (∀ a, a ≠ 143 + d → u2.1 a = u.1 a) ∧ u2.1 (143 + d) 0 = nI p ∧ ∀ k x, l[k]? = some x → u2.1 (143 + d) (k + 1) = nI x := by
  have ib5 : ib (nI d) 5 = true := ib_nI (by omega) (by decide)
  have ib6 : ib (nI (d + 1)) 5 = true := ib_nI (by omega) (by decide)
  have cl1 : (nI d).toNatClampNeg = d := nI_clamp (by omega)
  have cl2 : (nI (d + 1)).toNatClampNeg = d + 1 := nI_clamp (by omega)
  have ln5 : ∀ j, j < 5 → ln (143 + j) = 5 := by decide
  intro n
  induction n with
  | zero =>
    intro i fu u1 hi hf g ho h0 hr
    obtain ⟨fu, rfl⟩ : ∃ n', fu = n' + 1 := ⟨fu - 1, by omega⟩
    refine ⟨u1, ?_, g, ho, h0, fun k x hk => hr k x (by have := (List.getElem?_eq_some_iff.mp hk).1; omega) hk⟩
    unfold L_X12_look_161
    rw [nI_1, if_pos ib6, cl2, ho 148 (by omega), h.1, if_pos (nI_le (by omega) (by omega))]
  | succ n ih =>
    intro i fu u1 hi hf g ho h0 hr
    obtain ⟨fu, rfl⟩ : ∃ n', fu = n' + 1 := ⟨fu - 1, by omega⟩
    have hx : l[i]? = some (l.getD i 300) := getD_lt (by omega)
    obtain ⟨u2, e2, g2, o2, z2, r2⟩ := ih (i + 1) fu (wI u1 (143 + d) (i + 1) (nI (l.getD i 300))) (by omega) (by omega) (lrM_tr g (lrM_row (by omega))) (fun a ha => by rw [wI_r ha]; exact ho a ha) (by rw [wI_at_ne (by omega)]; exact h0) (fun k x hk hkx => by
      by_cases e : k = i
      · subst e
        rw [wI_at]
        rw [hx] at hkx
        cases hkx
        rfl
      · rw [wI_at_ne (by omega)]
        exact hr k x (by omega) hkx)
    refine ⟨u2, ?_, g2, o2, z2, r2⟩
    unfold L_X12_look_161
    rw [nI_1, if_pos ib6, cl2, ho 148 (by omega), h.1, if_neg (nI_ge (by omega) (by omega)), if_pos ib5, bd_eq, cl1, if_pos ib6, bd_eq, ln5 (d + 1) (by omega), if_pos (ib_nI (by omega) (by decide)), ln5 d (by omega), nI_1, if_pos (ib_nI (by omega) (by decide)), nI_clamp (by omega), nI_clamp (by omega), ho (143 + (d + 1)) (by omega), h.2 i _ hx, bd_eq, bd_eq, e2]
theorem m_putA {rec : Int32 → Int32 → Wd → Option (Int32 × Wd)} {k23 : Int32 → Int32 → Wd → Option (Int32 × Wd)} {x9 x11 v : Int32} {q10 p : Nat} {l : List Nat} (hd : d ≤ 3) (hl : l.length ≤ 3) (h : lnM u (d + 1) l) : ∃ u1, J_X12_look_j141_2 (nI d) (nI p) rec x9 q10 x11 v k23 u = k23 v 0 u1 ∧ lnM u1 d (p :: l) ∧ lrM d u u1 := by
  have ib5 : ib (nI d) 5 = true := ib_nI (by omega) (by decide)
  have ib6 : ib (nI (d + 1)) 5 = true := ib_nI (by omega) (by decide)
  have cl1 : (nI d).toNatClampNeg = d := nI_clamp (by omega)
  have cl2 : (nI (d + 1)).toNatClampNeg = d + 1 := nI_clamp (by omega)
  have ln5 : ∀ j, j < 5 → ln (143 + j) = 5 := by decide
  obtain ⟨u2, e2, g2, o2, z2, r2⟩ := m_cpy (u := u) (d := d) (p := p) (l := l) (k41 := J_X12_look_x202_1 (nI d) k23 v) (rec := rec) (x36 := x9) (x38 := x11) (x39 := v) (x40 := nI p) (q37 := q10) hd hl h l.length 0 FU (wI u (143 + d) 0 (nI p)) (by omega) (by unfold FU; omega) (lrM_row (by omega)) (fun a ha => wI_r ha) wI_at (fun k x hk => by omega)
  rw [nI_0] at e2
  refine ⟨wI u2 148 d (nI (l.length + 1)), ?_, ⟨wI_at, fun k x hk => ?_⟩, lrM_tr g2 (lrM_148 (by omega))⟩
  · unfold J_X12_look_j141_2
    rw [if_pos ib5, bd_eq, cl1, ln5 d (by omega), if_pos (by decide), bd_eq, show (0 : Int32).toNatClampNeg = 0 from by decide, e2]
    unfold J_X12_look_x202_1
    rw [nI_1, if_pos ib6, if_pos ib5, cl1, cl2, o2 148 (by omega), h.1, nI_1, bd_eq]
  · rw [wI_r (by omega)]
    cases k with
    | zero =>
      cases hk
      exact z2
    | succ k => exact r2 k x hk
theorem m_look (hB : okB c L (P0 14) P0) (hM : M ≤ 4) : ∀ (n fu : Nat) (r : List Nat) (u : Wd), n < fu → r.length + n = M → tdN u c L P0 r → ∃ u1, E_X12_look fu (nI r.length) (nI M) u = some ((lkF c L P0 n r).1, u1) ∧ lrM r.length u u1 ∧ lnM u1 r.length (lkF c L P0 n r).2 := by
  have hc6 := hB.2.1
  have lead : ∀ (r : List Nat) (u : Wd), tdN u c L P0 r → J_X12_look_j27_5 (133 + r.length) u = some (leF c L P0 r, u) := by
    intro r u h
    have hln : ln (133 + r.length) = 16 := (arr_ln (isArr_T h.2.2.2.2.1)).1
    unfold J_X12_look_j27_5
    rw [hln, if_pos (by decide), if_pos (by decide), h.1.1, show (12 : Int32).toNatClampNeg = 12 from by decide, show (13 : Int32).toNatClampNeg = 13 from by decide, eP_at, eP_at]
    rfl
  intro n
  induction n with
  | zero =>
    intro fu r u hf hr h
    obtain ⟨fu, rfl⟩ : ∃ n', fu = n' + 1 := ⟨fu - 1, by omega⟩
    have g : lrM r.length u (wI u 148 r.length 0) := lrM_148 (by omega)
    refine ⟨wI u 148 r.length 0, ?_, g, ⟨by rw [wI_at]; rfl, fun k x hk => by cases hk⟩⟩
    show B_X12_look _ _ _ u = _
    unfold B_X12_look
    rw [if_pos (ib_nI (by omega) (by decide)), bd_eq, nI_clamp (by omega), if_pos (ib_nI (by omega) (by decide)), bd_eq, bd_eq, if_pos (by rw [show r.length = M by omega]), lead r _ (tdN_gr h g.1 (by decide) (by decide))]
    rfl
  | succ n ih =>
    intro fu r u hf hr h
    obtain ⟨fu, rfl⟩ : ∃ n', fu = n' + 1 := ⟨fu - 1, by omega⟩
    have hP := (psT_ok (L := L) hB r h.2.2.2.2).1
    have h14 := hP.2.2.2.1
    have hln : ln (133 + r.length) = 16 := (arr_ln (isArr_T (by omega))).1
    have g : lrM r.length u (wI u 148 r.length 0) := lrM_148 (by omega)
    have h' := tdN_gr h g.1 (by decide) (by decide)
    have hgo : E_X12_look (fu + 1) (nI r.length) (nI M) u = if overS c (psT c L P0 r) = true then some (leF c L P0 r, wI u 148 r.length 0) else L_X12_look_52 (fun p1 p2 w => E_X12_look fu p1 p2 w) (nI r.length) (nI M) (133 + r.length) (nI (psT c L P0 r 14)) J_X12_look_x224_4 FU 0 1 0 (wI u 148 r.length 0) := by
      show B_X12_look _ _ _ u = _
      unfold B_X12_look
      rw [if_pos (ib_nI (by omega) (by decide)), bd_eq, nI_clamp (by omega), if_pos (ib_nI (by omega) (by decide)), bd_eq, bd_eq, if_neg (by rw [nI_eq (by omega) (by omega)]; omega), m_over hln h'.1 h'.2.2.1 hP, bc_eq]
      by_cases e : overS c (psT c L P0 r) = true
      · rw [if_pos e, if_pos e, if_neg (by decide), lead r _ h']
      · rw [if_neg e, if_neg e, if_pos rfl, hln, if_pos (by decide), h'.1.1, show (14 : Int32).toNatClampNeg = 14 from by decide, eP_at, bd_eq]
    have kids : ∀ (m p fu2 : Nat) (s : Int32 × List Nat) (u : Wd), m + p = c → m < fu2 → tdN u c L P0 r → lnM u r.length s.2 → s.2.length ≤ n + 1 → ∃ u1, L_X12_look_52 (fun p1 p2 w => E_X12_look fu p1 p2 w) (nI r.length) (nI M) (133 + r.length) (nI (psT c L P0 r 14)) J_X12_look_x224_4 fu2 s.1 (if s.2 = [] then 1 else 0) (nI p) u = some ((lkK c L P0 (lkF c L P0 n) r m p s).1, u1) ∧ lrM r.length u u1 ∧ lnM u1 r.length (lkK c L P0 (lkF c L P0 n) r m p s).2 := by
      intro m
      induction m with
      | zero =>
        intro p fu2 s u hp hf2 h hl hs
        obtain ⟨fu2, rfl⟩ : ∃ n', fu2 = n' + 1 := ⟨fu2 - 1, by omega⟩
        refine ⟨u, ?_, lrM_rf u, hl⟩
        unfold L_X12_look_52
        rw [h.2.2.1, if_pos (nI_le (by omega) (by omega))]
        rfl
      | succ m ihm =>
        intro p fu2 s u hp hf2 h hl hs
        obtain ⟨fu2, rfl⟩ : ∃ n', fu2 = n' + 1 := ⟨fu2 - 1, by omega⟩
        have hpc : p < c := by omega
        have s2 := ihm (p + 1) fu2
        have ek : lkK c L P0 (lkF c L P0 n) r (m + 1) p s = lkK c L P0 (lkF c L P0 n) r m (p + 1) (if psT c L P0 r (psT c L P0 r 14 * c + p) = 0 then s else if bkF (psT c L P0 r 14) s (lkF c L P0 n (p :: r)).1 then ((lkF c L P0 n (p :: r)).1, p :: (lkF c L P0 n (p :: r)).2) else s) := rfl
        have ib1 : ib (nI (r.length + 1)) 7 = true := ib_nI (by omega) (by decide)
        have cl2 : (nI (r.length + 1)).toNatClampNeg = r.length + 1 := nI_clamp (by omega)
        rw [ek]
        by_cases hz : psT c L P0 r (psT c L P0 r 14 * c + p) = 0
        · rw [if_pos hz]
          obtain ⟨u5, e5, g5, n5⟩ := s2 s u (by omega) (by omega) h hl hs
          refine ⟨u5, ?_, g5, n5⟩
          unfold L_X12_look_52
          rw [h.2.2.1, if_neg (nI_ge (by omega) (by omega)), m_refN hB h hpc, bc_eq, bd_eq, if_pos hz, if_neg (show ¬ (0 : Int32) ≤ -2 by decide)]
          unfold J_X12_look_j218_3
          rw [bd_eq, nI_1, e5]
        · rw [if_neg hz]
          obtain ⟨u2, u3, l1, l2, g3, T3, kr, kf⟩ := m_childN (F := FL) (T := []) hB h (by omega) hpc (by decide) (by decide) (by decide)
          have g3' : lrM r.length u u3 := ⟨g3, fun i hi => by rw [kr 148 (by omega) (by decide)], fun j hj => kr _ (by omega) (by omega)⟩
          obtain ⟨u4, e4, g4, n4⟩ := ih fu (p :: r) u3 (by omega) (by show r.length + 1 + n = M; omega) T3
          rw [show (p :: r).length = r.length + 1 from rfl] at e4 g4 n4
          have g34 : lrM r.length u u4 := lrM_tr g3' (lrM_up g4)
          have hl4 : lnM u4 r.length s.2 := ⟨((g4.2.1 r.length (by omega)).trans (by rw [kr 148 (by omega) (by decide)])).trans hl.1, fun k x hk => by rw [g4.2.2 r.length (by omega), kr _ (by omega) (by omega)]; exact hl.2 k x hk⟩
          have hlf := lkF_len (c := c) (L := L) (P0 := P0) n (p :: r)
          generalize hv : lkF c L P0 n (p :: r) = v at e4 n4 hlf
          have yes : ∃ u1, J_X12_look_j141_2 (nI r.length) (nI p) (fun p1 p2 w => E_X12_look fu p1 p2 w) (nI M) (133 + r.length) (nI (psT c L P0 r 14)) v.1 (J_X12_look_j218_3 (L_X12_look_52 (fun p1 p2 w => E_X12_look fu p1 p2 w) (nI r.length) (nI M) (133 + r.length) (nI (psT c L P0 r 14)) J_X12_look_x224_4 fu2) (nI p)) u4 = some ((lkK c L P0 (lkF c L P0 n) r m (p + 1) (v.1, p :: v.2)).1, u1) ∧ lrM r.length u u1 ∧ lnM u1 r.length (lkK c L P0 (lkF c L P0 n) r m (p + 1) (v.1, p :: v.2)).2 := by
            obtain ⟨u5, e5, n5, g5⟩ := m_putA (p := p) (d := r.length) (rec := fun p1 p2 w => E_X12_look fu p1 p2 w) (x9 := nI M) (q10 := 133 + r.length) (x11 := nI (psT c L P0 r 14)) (v := v.1) (k23 := J_X12_look_j218_3 (L_X12_look_52 (fun p1 p2 w => E_X12_look fu p1 p2 w) (nI r.length) (nI M) (133 + r.length) (nI (psT c L P0 r 14)) J_X12_look_x224_4 fu2) (nI p)) (by omega) (by omega) n4
            obtain ⟨u6, e6, g6, n6⟩ := s2 (v.1, p :: v.2) u5 (by omega) (by omega) (tdN_gr h (lrM_tr g34 g5).1 (by decide) (by decide)) n5 (by show v.2.length + 1 ≤ n + 1; omega)
            refine ⟨u6, ?_, lrM_tr g34 (lrM_tr g5 g6), n6⟩
            rw [if_neg (show ¬ p :: v.2 = [] from fun z => by cases z)] at e6
            rw [e5]
            unfold J_X12_look_j218_3
            rw [bd_eq, nI_1, e6]
          have no : ∃ u1, J_X12_look_j218_3 (L_X12_look_52 (fun p1 p2 w => E_X12_look fu p1 p2 w) (nI r.length) (nI M) (133 + r.length) (nI (psT c L P0 r 14)) J_X12_look_x224_4 fu2) (nI p) s.1 (if s.2 = [] then 1 else 0) u4 = some ((lkK c L P0 (lkF c L P0 n) r m (p + 1) s).1, u1) ∧ lrM r.length u u1 ∧ lnM u1 r.length (lkK c L P0 (lkF c L P0 n) r m (p + 1) s).2 := by
            obtain ⟨u6, e6, g6, n6⟩ := s2 s u4 (by omega) (by omega) (tdN_gr h g34.1 (by decide) (by decide)) hl4 hs
            refine ⟨u6, ?_, lrM_tr g34 g6, n6⟩
            unfold J_X12_look_j218_3
            rw [bd_eq, nI_1, e6]
          have hmain : L_X12_look_52 (fun p1 p2 w => E_X12_look fu p1 p2 w) (nI r.length) (nI M) (133 + r.length) (nI (psT c L P0 r 14)) J_X12_look_x224_4 (fu2 + 1) s.1 (if s.2 = [] then 1 else 0) (nI p) u = if bkF (psT c L P0 r 14) s v.1 then J_X12_look_j141_2 (nI r.length) (nI p) (fun p1 p2 w => E_X12_look fu p1 p2 w) (nI M) (133 + r.length) (nI (psT c L P0 r 14)) v.1 (J_X12_look_j218_3 (L_X12_look_52 (fun p1 p2 w => E_X12_look fu p1 p2 w) (nI r.length) (nI M) (133 + r.length) (nI (psT c L P0 r 14)) J_X12_look_x224_4 fu2) (nI p)) u4 else J_X12_look_j218_3 (L_X12_look_52 (fun p1 p2 w => E_X12_look fu p1 p2 w) (nI r.length) (nI M) (133 + r.length) (nI (psT c L P0 r 14)) J_X12_look_x224_4 fu2) (nI p) s.1 (if s.2 = [] then 1 else 0) u4 := by
            generalize hR : L_X12_look_52 (fun p1 p2 w => E_X12_look fu p1 p2 w) (nI r.length) (nI M) (133 + r.length) (nI (psT c L P0 r 14)) J_X12_look_x224_4 fu2 = R
            unfold L_X12_look_52
            rw [h.2.2.1, if_neg (nI_ge (by omega) (by omega)), m_refN hB h hpc, bc_eq, bd_eq, if_neg hz, if_pos (show (0 : Int32) ≤ 0 by decide), nI_1, if_pos ib1, bd_eq, cl2, l1, bv_eq, if_pos ib1, bd_eq, l2, bv_eq, e4, bc_eq, bd_eq, hR]
            by_cases hn : s.2 = []
            · rw [if_pos hn, if_neg (show ¬ (1 : Int32) = 0 by decide), if_pos (show bkF _ s v.1 from Or.inl hn)]
            · rw [if_neg hn, if_pos (show (0 : Int32) = 0 from rfl)]
              by_cases ht : psT c L P0 r 14 = 0
              · rw [if_pos (by rw [ht]; rfl)]
                by_cases hlt : s.1 < v.1
                · rw [if_pos hlt, if_pos (show bkF _ s v.1 from Or.inr (Or.inl ⟨ht, hlt⟩))]
                · rw [if_neg hlt, if_neg (show ¬ bkF _ s v.1 from fun z => z.elim hn (fun z => z.elim (fun z => hlt z.2) (fun z => z.1 ht)))]
              · rw [if_neg (by rw [nI_z (by omega)]; exact ht)]
                by_cases hlt : v.1 < s.1
                · rw [if_pos hlt, if_pos (show bkF _ s v.1 from Or.inr (Or.inr ⟨ht, hlt⟩))]
                · rw [if_neg hlt, if_neg (show ¬ bkF _ s v.1 from fun z => z.elim hn (fun z => z.elim (fun z => ht z.1) (fun z => hlt z.2)))]
          rw [hmain]
          by_cases hb : bkF (psT c L P0 r 14) s v.1
          · rw [if_pos hb, if_pos hb]
            exact yes
          · rw [if_neg hb, if_neg hb]
            exact no
    have el : lkF c L P0 (n + 1) r = if overS c (psT c L P0 r) = true then (leF c L P0 r, []) else lkK c L P0 (lkF c L P0 n) r c 0 (0, []) := rfl
    rw [hgo, el]
    have hln0 : lnM (wI u 148 r.length 0) r.length [] := ⟨by rw [wI_at]; rfl, fun k x hk => by cases hk⟩
    by_cases e : overS c (psT c L P0 r) = true
    · rw [if_pos e, if_pos e]
      exact ⟨_, rfl, g, hln0⟩
    · have hfu : c < FU := by unfold FU; omega
      obtain ⟨u1, k1, k2, k3⟩ := kids c 0 FU (0, []) _ rfl hfu h' hln0 (Nat.zero_le _)
      rw [nI_0, if_pos rfl] at k1
      rw [if_neg e, if_neg e]
      exact ⟨u1, k1, lrM_tr g k2, k3⟩
end ML
