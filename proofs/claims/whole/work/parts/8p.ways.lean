/-! ways -/
def stW (c L : Nat) (P0 : Nat → Nat) (x D : Nat) (s : Nat × List Int64) (τ : List Nat) : Nat × List Int64 := if τ.length = D ∧ psT c L P0 τ x = 0 then (s.1 + 1, if s.1 = 0 then pth τ else s.2) else s
def okW (s : Nat × List Int64) : Prop := (s.1 = 0 → s.2 = []) ∧ s.2.length ≤ 6
section WA
variable {w u : Wd} {c L x D : Nat} {P0 : Nat → Nat}
theorem stW_ok {s : Nat × List Int64} {τ : List Nat} (h : okW s) (hl : τ.length ≤ 6) : okW (stW c L P0 x D s τ) ∧ (stW c L P0 x D s τ).1 ≤ s.1 + 1 := by
  unfold stW
  split
  · refine ⟨⟨fun z => by simp at z, ?_⟩, Nat.le_refl _⟩
    show (if s.1 = 0 then pth τ else s.2).length ≤ 6
    split
    · rw [pth_len]; exact hl
    · exact h.2
  · exact ⟨h, by omega⟩
theorem stW_fold : ∀ (l : List (List Nat)) (s : Nat × List Int64), okW s → (∀ τ ∈ l, τ.length ≤ 6) → okW (l.foldl (stW c L P0 x D) s) ∧ (l.foldl (stW c L P0 x D) s).1 ≤ s.1 + l.length := by
  intro l
  induction l with
  | nil => intro s h _; exact ⟨h, Nat.le_refl _⟩
  | cons τ l ih =>
    intro s h hl
    obtain ⟨a, b⟩ := stW_ok (c := c) (L := L) (P0 := P0) (x := x) (D := D) h (hl τ List.mem_cons_self)
    obtain ⟨a2, b2⟩ := ih _ a (fun t ht => hl t (List.mem_cons_of_mem _ ht))
    refine ⟨a2, ?_⟩
    have e : (τ :: l).length = l.length + 1 := rfl
    show (l.foldl (stW c L P0 x D) (stW c L P0 x D s τ)).1 ≤ _
    omega
theorem c_wvisit {k7 k8 : Int32 → Wd → Option (Int32 × Wd)} (hB : okB c L (P0 14) P0) (hx : x < 12) (hD : D ≤ 6) {fu j : Nat} {r : List Nat} {s : Nat × List Int64} (hj : j < 900000) (hs : s.1 < 900000) (h : TS w c L P0 false D r) (hb : rowC w s.2) : ∃ w1, L_X11_ways_51 (nI x) (nI D) k7 k8 (fu + 1) (nI s.1) (nI j) w = J_X11_ways_j103_2 (L_X11_ways_51 (nI x) (nI D) k7 k8 fu) k7 (nI j) (nI (stW c L P0 x D s r).1) w1 ∧ same [82] [83] w w1 ∧ TS w1 c L P0 false D r ∧ rowC w1 (stW c L P0 x D s r).2 := by
  have h6 := h.2.2.2.2.2.2.1.1
  have hP := (psT_ok (L := L) hB r h.2.2.2.2.2.2.1).1
  have at1 := trT_top r h.2.2.2.2.1
  have hlt := tot_lt hP.2.2.2.2.2 x hx
  have go : L_X11_ways_51 (nI x) (nI D) k7 k8 (fu + 1) (nI s.1) (nI j) w = if r.length = D then (if psT c L P0 r x = 0 then (if s.1 = 0 then bv (D_X10_tellPath w) (fun w24 => J_X11_ways_j103_2 (L_X11_ways_51 (nI x) (nI D) k7 k8 fu) k7 (nI j) (nI (s.1 + 1)) w24) else J_X11_ways_j103_2 (L_X11_ways_51 (nI x) (nI D) k7 k8 fu) k7 (nI j) (nI (s.1 + 1)) w) else J_X11_ways_j103_2 (L_X11_ways_51 (nI x) (nI D) k7 k8 fu) k7 (nI j) (nI s.1) w) else J_X11_ways_j103_2 (L_X11_ways_51 (nI x) (nI D) k7 k8 fu) k7 (nI j) (nI s.1) w := by
    generalize hR : L_X11_ways_51 (nI x) (nI D) k7 k8 fu = R
    show (if (1000000 : Int32) ≤ nI j then _ else _) = _
    rw [show (1000000 : Int32) = nI 1000000 from by decide +kernel, if_neg (nI_ge (by omega) (by decide)), bd_eq, h.1, hR]
    by_cases e : r.length = D
    · rw [if_pos e, if_pos (by rw [e]), c_here h, bc_eq, if_pos (ib_nI hx (by decide)), nI_clamp (by omega), isAt_s at1 x hx]
      by_cases hz : psT c L P0 r x = 0
      · rw [if_pos hz, if_pos (by rw [hz]; rfl), bd_eq]
        by_cases h0 : s.1 = 0
        · rw [if_pos h0, if_pos (by rw [h0]; rfl)]
          unfold J_X11_ways_j100_1
          simp only [bd_eq, nI_1]
        · rw [if_neg h0, if_neg (by rw [nI_z (by omega)]; exact h0)]
          unfold J_X11_ways_j100_1
          simp only [bd_eq, nI_1]
      · rw [if_neg hz, if_neg (by rw [nI_z hlt]; exact hz)]
    · rw [if_neg e, if_neg (by rw [nI_eq (by omega) (by omega)]; exact e)]
  rw [go]
  unfold stW
  by_cases e : r.length = D
  · rw [if_pos e]
    by_cases hz : psT c L P0 r x = 0
    · rw [if_pos hz, if_pos (And.intro e hz)]
      by_cases h0 : s.1 = 0
      · obtain ⟨w2, t1, t2, t3⟩ := c_tellPath h
        rw [if_pos h0, if_pos h0, t1, bv_eq]
        exact ⟨w2, rfl, t3, TS_same h t3, t2⟩
      · rw [if_neg h0, if_neg h0]
        exact ⟨w, rfl, same_rf w, h, hb⟩
    · rw [if_neg hz, if_neg (fun z => hz (And.right z))]
      exact ⟨w, rfl, same_rf w, h, hb⟩
  · rw [if_neg e, if_neg (fun z => e (And.left z))]
    exact ⟨w, rfl, same_rf w, h, hb⟩
theorem c_wloop {k7 k8 : Int32 → Wd → Option (Int32 × Wd)} (hB : okB c L (P0 14) P0) (hx : x < 12) (hD : D ≤ 6) : ∀ (l : List (List Nat)) (fu j : Nat) (r : List Nat) (s : Nat × List Int64) (w : Wd), l.length < fu → j + l.length < 900000 → s.1 + l.length < 800000 → TS w c L P0 false D r → sbT c L P0 false (D - r.length) r ++ rsT c L P0 false D r = l → rowC w s.2 → ∃ w1, L_X11_ways_51 (nI x) (nI D) k7 k8 fu (nI s.1) (nI j) w = k7 (nI ((r :: l).foldl (stW c L P0 x D) s).1) w1 ∧ qC EC1 [83] w w1 ∧ rowC w1 ((r :: l).foldl (stW c L P0 x D) s).2 := by
  intro l
  induction l with
  | nil =>
    intro fu j r s w hf hj hs h hl hb
    have hnil : ([] : List (List Nat)).length = 0 := rfl
    obtain ⟨fu, rfl⟩ : ∃ n', fu = n' + 1 := ⟨fu - 1, by omega⟩
    obtain ⟨w1, e1, s1, T1, r1⟩ := c_wvisit (k7 := k7) (k8 := k8) (fu := fu) (j := j) hB hx hD (by omega) (by omega) h hb
    rcases d_step hB hD T1 with ⟨w2, e2, q2, -⟩ | ⟨q, w2, e2, q2, T2, e3⟩
    · refine ⟨w2, ?_, qC_tr (qC_hi s1 (by decide) (by decide) (by decide)) (qT_up q2), rowC_same r1 q2.1 (by decide) (by decide)⟩
      rw [e1]
      unfold J_X11_ways_j103_2
      rw [e2, bc_eq, if_pos rfl]
      rfl
    · rw [hl] at e3
      cases e3
  | cons τ l ih =>
    intro fu j r s w hf hj hs h hl hb
    have hll : (τ :: l).length = l.length + 1 := rfl
    obtain ⟨fu, rfl⟩ : ∃ n', fu = n' + 1 := ⟨fu - 1, by omega⟩
    obtain ⟨w1, e1, s1, T1, r1⟩ := c_wvisit (k7 := k7) (k8 := k8) (fu := fu) (j := j) hB hx hD (by omega) (by omega) h hb
    have hst : (stW c L P0 x D s r).1 ≤ s.1 + 1 := by
      unfold stW
      split
      · exact Nat.le_refl _
      · omega
    rcases d_step hB hD T1 with ⟨w2, e2, q2, e3⟩ | ⟨q, w2, e2, q2, T2, e3⟩
    · rw [hl] at e3
      cases e3
    · rw [hl] at e3
      injection e3 with eq1 eq2
      subst eq1
      obtain ⟨w3, f1, f2, f3⟩ := ih fu (j + 1) τ (stW c L P0 x D s r) w2 (by omega) (by omega) (by omega) T2 eq2.symm (rowC_same r1 q2.1 (by decide) (by decide))
      refine ⟨w3, ?_, qC_tr (qC_hi s1 (by decide) (by decide) (by decide)) (qC_tr (qT_up q2) f2), f3⟩
      rw [e1]
      unfold J_X11_ways_j103_2
      rw [e2, bc_eq, if_neg (by decide), bd_eq, nI_1, f1]
      rfl
/-! the reference -/
abbrev FY : List Nat := [6, 19, 20, 21, 36]
theorem gr_tell {d : Nat} {F T : List Nat} {u1 : Wd} (s : sameM [] [122] [6] u u1) (hF : 6 ∈ F) (hT : 122 ∈ T) (hd : d ≤ 6) : gr F T d u u1 := by
  have s1 : sameR [] [6] [122] [] u u1 := ⟨fun a _ h9 => s.1.1 a (by simp [h9]), s.2, s.1.2.1, fun k _ => by rw [s.1.2.2]⟩
  exact ⟨sameR_sub s1 (by simp) (by simpa using hF) (by simpa using hT) (by simp), fun m => arrM_same m s1 (by simp), fun a h1 h2 => s1.1 a (by simp) (by omega), fun i hi => by rw [s1.1 140 (by simp) (by decide)]⟩
theorem m_wtell {k24 : Wd → Option Wd} {rec : Int32 → Int32 → Int32 → Wd → Option Wd} (hD : D ≤ 6) : ∀ (r : List Nat) (fu : Nat) (u : Wd), r.length ≤ D → u.1 119 36 = 0 → rwT u 140 r → rowM u [] → ∃ u1, L_X12_goWays_20 rec (nI D) k24 (fu + r.length) (nI 0) u = L_X12_goWays_20 rec (nI D) k24 fu (nI r.length) u1 ∧ rowM u1 (pth r) ∧ sameM [] [122] [6] u u1 := by
  intro r
  induction r with
  | nil => intro fu w _ _ _ h; exact ⟨w, rfl, h, sameM_rf w⟩
  | cons p r ih =>
    intro fu w hl h5 hr hc
    have hl2 : (p :: r).length = r.length + 1 := rfl
    obtain ⟨w1, e1, c1, s1⟩ := ih (fu + 1) w (by omega) h5 hr.2 hc
    obtain ⟨w2, e2, c2, s2⟩ := d_tellM c1 (by rw [pth_len]; omega) (nI p).toInt64
    refine ⟨w2, ?_, c2, sameM_tr s1 s2⟩
    rw [hl2, show fu + (r.length + 1) = fu + 1 + r.length by omega, e1]
    show (if nI D ≤ nI r.length then _ else _) = _
    rw [if_neg (nI_ge (by omega) (by omega)), s1.2 36 (by decide), if_pos h5, if_pos (ib_nI (by omega) (by decide)), nI_clamp (by omega), s1.1.1 140 (by decide), hr.1, e2, bv_eq, bd_eq, nI_1]
theorem m_goWays (hB : okB c L (P0 14) P0) (hx : x < 12) (hD : D ≤ 6) : ∀ (n fu : Nat) (r : List Nat) (s : Nat × List Int64) (u : Wd), n < fu → r.length + n = D → s.1 + szT c n < 800000 → tdM u c L P0 r → u.1 119 36 = nI s.1 → rowM u s.2 → okW s → ∃ u1, E_X12_goWays fu (nI x) (nI r.length) (nI D) u = some u1 ∧ gr FY [122] r.length u u1 ∧ u1.1 119 36 = nI ((r :: sbT c L P0 false n r).foldl (stW c L P0 x D) s).1 ∧ rowM u1 ((r :: sbT c L P0 false n r).foldl (stW c L P0 x D) s).2 := by
  have hc6 := hB.2.1
  intro n
  induction n with
  | zero =>
    intro fu r s u hf hr hsz h h36 hrow hok
    obtain ⟨fu, rfl⟩ : ∃ n', fu = n' + 1 := ⟨fu - 1, by omega⟩
    have hP := (psT_ok (L := L) hB r h.2.2.2.2.2).1
    have hln : ln (133 + r.length) = 16 := (arr_ln (isArr_T (by omega))).1
    have hlt := tot_lt hP.2.2.2.2.2 x hx
    have hz0 : s.1 < 800000 := by omega
    have go : E_X12_goWays (fu + 1) (nI x) (nI r.length) (nI D) u = if psT c L P0 r x = 0 then L_X12_goWays_20 (fun p1 p2 p3 w => E_X12_goWays fu p1 p2 p3 w) (nI D) J_X12_goWays_x51_3 FU 0 u else some u := by
      show B_X12_goWays _ _ _ _ u = _
      unfold B_X12_goWays
      rw [if_pos (by rw [show r.length = D by omega]), if_pos (ib_nI (by omega) (by decide)), bd_eq, nI_clamp (by omega), hln, if_pos (ib_nI (by omega) (by decide)), nI_clamp (by omega), h.1.1, eP_at]
      by_cases hz : psT c L P0 r x = 0
      · rw [if_pos hz, if_pos (by rw [nI_le0 hlt]; exact hz)]
      · rw [if_neg hz, if_neg (by rw [nI_le0 hlt]; exact hz)]
    show ∃ u1, _ ∧ _ ∧ u1.1 119 36 = nI (stW c L P0 x D s r).1 ∧ rowM u1 (stW c L P0 x D s r).2
    rw [go]
    unfold stW
    by_cases hz : psT c L P0 r x = 0
    · rw [if_pos hz, if_pos (And.intro (by omega) hz)]
      by_cases h0 : s.1 = 0
      · have hr0 : rowM u [] := by
          rw [hok.1 h0] at hrow
          exact hrow
        obtain ⟨u1, e1, c1, s1⟩ := m_wtell (k24 := J_X12_goWays_x51_3) (rec := fun p1 p2 p3 w => E_X12_goWays fu p1 p2 p3 w) hD r (FU - r.length) u (by omega) (by rw [h36, h0]; rfl) h.2.1 hr0
        rw [nI_0, show FU - r.length + r.length = FU by unfold FU; omega] at e1
        have f36 : u1.1 119 36 = nI 0 := by rw [s1.2 36 (by decide), h36, h0]
        rw [if_pos h0]
        refine ⟨wI u1 119 36 (nI (s.1 + 1)), ?_, gr_tr (gr_tell s1 (by decide) (by decide) (by omega)) (gr_f (by decide)), wI_at, rowM_same (E := []) (F := [36]) (T := []) (Z := []) c1 (sameR_f (by simp)) (by simp) (by decide)⟩
        rw [e1, show FU - r.length = (FU - r.length - 1) + 1 by unfold FU; omega]
        show (if nI D ≤ nI r.length then _ else _) = _
        rw [if_pos (nI_le (by omega) (by omega))]
        unfold J_X12_goWays_x51_3
        rw [f36, nI_1, bd_eq, h0]
      · rw [if_neg h0]
        refine ⟨wI u 119 36 (nI (s.1 + 1)), ?_, gr_f (by decide), wI_at, rowM_same (E := []) (F := [36]) (T := []) (Z := []) hrow (sameR_f (by simp)) (by simp) (by decide)⟩
        rw [show FU = (FU - 1) + 1 by unfold FU; omega]
        have hk : J_X12_goWays_x51_3 u = some (wI u 119 36 (nI (s.1 + 1))) := by
          unfold J_X12_goWays_x51_3
          rw [h36, nI_1, bd_eq]
        show (if nI D ≤ 0 then _ else _) = _
        by_cases hd0 : nI D ≤ 0
        · rw [if_pos hd0, hk]
        · rw [if_neg hd0, h36, if_neg (by rw [nI_z (by omega)]; exact h0), hk]
    · rw [if_neg hz, if_neg (fun z => hz (And.right z))]
      exact ⟨u, rfl, gr_rf u, h36, hrow⟩
  | succ n ih =>
    intro fu r s u hf hr hsz h h36 hrow hok
    obtain ⟨fu, rfl⟩ : ∃ n', fu = n' + 1 := ⟨fu - 1, by omega⟩
    have hne : ¬ nI r.length = nI D := by
      rw [nI_eq (by omega) (by omega)]
      omega
    have kids : ∀ (m p fu2 : Nat) (s : Nat × List Int64) (u : Wd), m + p = c → m < fu2 → s.1 + m * (szT c n + 1) < 800000 → tdM u c L P0 r → u.1 119 36 = nI s.1 → rowM u s.2 → okW s → ∃ u1, L_X12_goWays_65 (fun p1 p2 p3 w => E_X12_goWays fu p1 p2 p3 w) (nI x) (nI r.length) (nI D) J_X12_goWays_x147_2 fu2 (nI p) u = some u1 ∧ gr FY [122] r.length u u1 ∧ u1.1 119 36 = nI ((kdT c L P0 (sbT c L P0 false n) r m p).foldl (stW c L P0 x D) s).1 ∧ rowM u1 ((kdT c L P0 (sbT c L P0 false n) r m p).foldl (stW c L P0 x D) s).2 := by
      intro m
      induction m with
      | zero =>
        intro p fu2 s u hp hf2 hsz h h36 hrow hok
        obtain ⟨fu2, rfl⟩ : ∃ n', fu2 = n' + 1 := ⟨fu2 - 1, by omega⟩
        refine ⟨u, ?_, gr_rf u, h36, hrow⟩
        unfold L_X12_goWays_65
        rw [h.2.2.2.1, if_pos (nI_le (by omega) (by omega))]
        rfl
      | succ m ihm =>
        intro p fu2 s u hp hf2 hsz h h36 hrow hok
        obtain ⟨fu2, rfl⟩ : ∃ n', fu2 = n' + 1 := ⟨fu2 - 1, by omega⟩
        rw [Nat.succ_mul] at hsz
        have hpc : p < c := by omega
        have ib1 : ib (nI r.length) 7 = true := ib_nI (by omega) (by decide)
        have ib2 : ib (nI (r.length + 1)) 7 = true := ib_nI (by omega) (by decide)
        have cl1 : (nI r.length).toNatClampNeg = r.length := nI_clamp (by omega)
        have cl2 : (nI (r.length + 1)).toNatClampNeg = r.length + 1 := nI_clamp (by omega)
        by_cases hz : psT c L P0 r (psT c L P0 r 14 * c + p) = 0
        · have e : kdT c L P0 (sbT c L P0 false n) r (m + 1) p = kdT c L P0 (sbT c L P0 false n) r m (p + 1) := by
            show (if psT c L P0 r (psT c L P0 r 14 * c + p) = 0 then [] else (p :: r) :: sbT c L P0 false n (p :: r)) ++ kdT c L P0 (sbT c L P0 false n) r m (p + 1) = _
            rw [if_pos hz]
            rfl
          obtain ⟨u1, e1, g1, b1⟩ := ihm (p + 1) fu2 s u (by omega) (by omega) (by omega) h h36 hrow hok
          rw [e]
          refine ⟨u1, ?_, g1, b1⟩
          unfold L_X12_goWays_65
          rw [h.2.2.2.1, if_neg (nI_ge (by omega) (by omega)), if_pos ib1, bd_eq, cl1, m_ref hB h hpc, bc_eq, bd_eq, if_pos hz, if_neg (by decide)]
          unfold J_X12_goWays_j141_1
          rw [bd_eq, nI_1, e1]
        · have e : kdT c L P0 (sbT c L P0 false n) r (m + 1) p = ((p :: r) :: sbT c L P0 false n (p :: r)) ++ kdT c L P0 (sbT c L P0 false n) r m (p + 1) := by
            show (if psT c L P0 r (psT c L P0 r 14 * c + p) = 0 then [] else (p :: r) :: sbT c L P0 false n (p :: r)) ++ kdT c L P0 (sbT c L P0 false n) r m (p + 1) = _
            rw [if_neg hz]
          obtain ⟨u1, u2, l1, l2, g2, i2, f19, T3, g3, kr, kf, kj⟩ := m_child (F := FY) (T := [122]) hB h (by omega) hpc (by decide) (by decide) (by decide)
          have row3 : rowM (wI u2 140 r.length (nI p)) s.2 := ⟨(kf 6 (by decide) (by decide) (by decide)).trans hrow.1, fun i v hv => by rw [kj 122]; exact hrow.2 i v hv⟩
          obtain ⟨u4, e4, g4, c4, r4⟩ := ih fu (p :: r) s _ (by omega) (by show r.length + 1 + n = D; omega) (by omega) T3 ((kf 36 (by decide) (by decide) (by decide)).trans h36) row3 hok
          rw [show (p :: r).length = r.length + 1 from rfl] at e4
          have g34 : gr FY [122] r.length u u4 := gr_tr g3 (gr_up g4)
          have hml : ∀ τ ∈ (p :: r) :: sbT c L P0 false n (p :: r), τ.length ≤ 6 := by
            intro τ ht
            have e1 : (p :: r).length = r.length + 1 := rfl
            rcases List.mem_cons.mp ht with z | z
            · rw [z]; omega
            · have := sb_ml n (p :: r) τ z
              omega
          obtain ⟨ok4, le4⟩ := stW_fold (c := c) (L := L) (P0 := P0) (x := x) (D := D) ((p :: r) :: sbT c L P0 false n (p :: r)) s hok hml
          have hlen := sbT_len (c := c) (L := L) (P0 := P0) (ot := false) n (p :: r)
          have ell : ((p :: r) :: sbT c L P0 false n (p :: r)).length = (sbT c L P0 false n (p :: r)).length + 1 := rfl
          obtain ⟨u5, e5, g5, b5⟩ := ihm (p + 1) fu2 _ u4 (by omega) (by omega) (by omega) (tdM_gr h g34 (by decide) (by decide)) c4 r4 ok4
          rw [e, List.foldl_append]
          refine ⟨u5, ?_, gr_tr g34 g5, b5⟩
          unfold L_X12_goWays_65
          rw [h.2.2.2.1, if_neg (nI_ge (by omega) (by omega)), if_pos ib1, bd_eq, cl1, m_ref hB h hpc, bc_eq, bd_eq, if_neg hz, if_pos (by decide), if_pos ib1, bd_eq, nI_1, if_pos ib2, bd_eq, cl2, l1, bv_eq, if_pos ib2, bd_eq, l2, bv_eq, if_pos ib1, bd_eq, e4, bv_eq]
          unfold J_X12_goWays_j141_1
          rw [bd_eq, nI_1, e5]
    have e0 : stW c L P0 x D s r = s := if_neg (fun z => by have := z.1; omega)
    have es : sbT c L P0 false (n + 1) r = kdT c L P0 (sbT c L P0 false n) r c 0 := if_neg (fun z => by cases z.1)
    have hfu : c < FU := by unfold FU; omega
    obtain ⟨u1, k1, k2, k3, k4⟩ := kids c 0 FU s u rfl hfu hsz h h36 hrow hok
    rw [nI_0] at k1
    show ∃ u1, _ ∧ _ ∧ u1.1 119 36 = nI ((sbT c L P0 false (n + 1) r).foldl (stW c L P0 x D) (stW c L P0 x D s r)).1 ∧ rowM u1 ((sbT c L P0 false (n + 1) r).foldl (stW c L P0 x D) (stW c L P0 x D s r)).2
    rw [e0, es]
    refine ⟨u1, ?_, k2, k3, k4⟩
    show B_X12_goWays _ _ _ _ u = _
    unfold B_X12_goWays
    rw [if_neg hne, k1]
end WA
theorem q_ways (x y : Int32) : Quest (D_X11_ways x y) (D_X12_ways x y) := by
  intro w c L P hs tx rl cd V kp cl si rw B m ok okr
  have hB := okB_of ok
  have h6 := hB.2.1
  have h2 := hB.1
  have n4 : (4 : Int32) = nI 4 := by decide +kernel
  rcases arg_cases (2 * c) (by omega) x with hx | ⟨i, hi, rfl⟩
  · refine ⟨-1, rw, okS_rw ok, ⟨w, ?_, m, onC_rf w⟩, fun u n => ⟨_, ?_, (MR_7 n).1, (MR_7 n).2⟩⟩
    · unfold D_X11_ways
      rw [d_hasPit_no (isAt_c m.1) hx, bc_eq, if_pos rfl]
    · unfold D_X12_ways
      rw [bd_eq, d_pits12 (MR_7 n).1.1, bc_eq, d_in0_no (by omega) (by omega) hx, bc_eq, if_pos rfl]
  · rcases rng_cases y 0 4 (by decide) (by decide) with hy | ⟨D, -, hD, rfl⟩
    · refine ⟨-1, rw, okS_rw ok, ⟨w, ?_, m, onC_rf w⟩, fun u n => ⟨_, ?_, (MR_7 n).1, (MR_7 n).2⟩⟩
      · unfold D_X11_ways
        rw [d_hasPit (n := 0) (isAt_c m.1) h6 hi, bc_eq, if_neg (by decide)]
        rw [nI_0] at hy
        by_cases h1 : y < 0
        · rw [if_pos h1]
        · rw [if_neg h1, n4, if_neg (Int32.not_le.mpr (hy.resolve_left h1))]
      · unfold D_X12_ways
        rw [bd_eq, d_pits12 (MR_7 n).1.1, bc_eq, d_in0 hi (by omega), bc_eq, if_neg (by decide), n4, in_no0 (by decide) hy, bc_eq, if_pos rfl]
    · have hsz := szT_le (c := c) (n := D) h6 (by omega)
      have hln := sbT_len (c := c) (L := L) (P0 := P) (ot := false) D []
      obtain ⟨w0, t1, t2, t3⟩ := d_clear w
      have p0 : posC w0 := posC_same m.2.2.1 t3 (by decide)
      have a0 : isAt w0 0 c P := isAt_same m.1 t3 (by decide)
      obtain ⟨w1, e1, T1, q1⟩ := c_start (ot := false) (M := D) (L := L) hB (by omega) a0 p0
      obtain ⟨w2, e2, q2, r2⟩ := c_wloop (k7 := J_X11_ways_x113_3) (k8 := J_X11_ways_x122_4) (x := i) (D := D) hB (by omega) (by omega) (sbT c L P false D []) FU 0 [] (0, []) w1 (by unfold FU; omega) (by omega) (by show 0 + _ < _; omega) T1 (by show sbT c L P false D [] ++ [] = _; rw [List.append_nil]) (rowC_same t2 q1.1 (by decide) (by decide))
      have hml : ∀ τ ∈ ([] : List Nat) :: sbT c L P false D [], τ.length ≤ 6 := by
        intro τ ht
        rcases List.mem_cons.mp ht with z | z
        · rw [z]; decide
        · have := sb_ml D [] τ z
          have e : ([] : List Nat).length = 0 := rfl
          omega
      have hok := (stW_fold (c := c) (L := L) (P0 := P) (x := i) (D := D) ([] :: sbT c L P false D []) (0, []) ⟨fun _ => rfl, by decide⟩ hml).1
      obtain ⟨k1, k2⟩ := CR_q m (qC_tr (qC_hi t3 (by decide) (by decide) (by decide)) (qC_tr (qT_up q1) q2)) r2
      have hgo : ∀ u, MR u c L P hs tx rl kp cl si rw → ∃ u1, D_X12_ways (nI i) (nI D) u = some (nI (([] :: sbT c L P false D []).foldl (stW c L P i D) (0, [])).1, u1) ∧ MR u1 c L P hs tx rl kp cl si (([] :: sbT c L P false D []).foldl (stW c L P i D) (0, [])).2 ∧ onM u u1 := by
        intro u n
        obtain ⟨n', on'⟩ := MR_7 n
        have q0 : qM FM1 [122] (wI u 119 7 0) (wI (wI (wI u 119 7 0) 119 36 0) 119 6 0) := qM_tr (qM_f (by decide)) (qM_f (by decide))
        obtain ⟨n1, o1⟩ := MR_q n' q0 (row0M _)
        obtain ⟨u2, l2, i2, s2⟩ := m_lay (a := 120) (b := 133) ln_120 (by decide) (by decide) n1.2.2.1 (arrM_of n1)
        have q2 : qM FM1 [122] _ u2 := qM_sub (qM_at (F := []) (T := []) (r := 133) s2 (by decide) (by decide) (by decide) ⟨_, i2⟩) (by simp) (by simp)
        obtain ⟨u3, e3, g3, c3, r3⟩ := m_goWays (x := i) (D := D) hB (by omega) (by omega) D 80 [] (0, []) u2 (by omega) (by show 0 + D = D; omega) (by show 0 + _ < _; omega) ⟨i2, trivial, q2.2 (arrM_of n1), (s2.2.1 1 (by simp)).trans n1.1, (s2.2.1 2 (by simp)).trans n1.2.1, ⟨by decide, by simp⟩⟩ (by rw [s2.2.1 36 (by simp), wI_at_ne (by decide), wI_at]; rfl) (rowM_same n1.2.2.2.2.2.1 s2 (by simp) (by simp)) ⟨fun _ => rfl, by decide⟩
        obtain ⟨k3, k4⟩ := MR_q n' (qM_tr q0 (qM_tr q2 (gr_qM g3 (by decide) (by simp)))) r3
        refine ⟨u3, ?_, k3, onM_tr on' k4⟩
        have e3' : D_X12_goWays (nI i) 0 (nI D) u2 = some u3 := e3
        unfold D_X12_ways
        rw [bd_eq, d_pits12 n'.1, bc_eq, d_in0 hi (by omega), bc_eq, if_neg (by decide), n4, in_yes0 hD (by decide), bc_eq, if_neg (by decide), bd_eq, bd_eq, if_pos (by decide), bd_eq, show 133 + (0 : Int32).toNatClampNeg = 133 from by decide, l2, bv_eq, e3', bv_eq, c3]
      refine ⟨_, _, Nat.le_trans hok.2 (by decide), ⟨w2, ?_, k1, k2⟩, hgo⟩
      have e1' : D_X10_start 0 (nI D) 0 (nI L) w0 = some w1 := e1
      have e2' : L_X11_ways_51 (nI i) (nI D) J_X11_ways_x113_3 J_X11_ways_x122_4 FU 0 0 w1 = _ := e2
      unfold D_X11_ways
      rw [d_hasPit (n := 0) (isAt_c m.1) h6 hi, bc_eq, if_neg (by decide), if_neg (nI_pos (by omega)), n4, if_pos (nI_le hD (by decide)), t1, bv_eq, t3.1 75 (by decide), m.2.1, e1', bv_eq, e2']
      rfl
