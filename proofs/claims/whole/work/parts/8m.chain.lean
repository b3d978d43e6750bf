/-! chain and longest: the class -/
/-- the ROW of a path -/
def pth : List Nat → List Int64
  | [] => []
  | p :: r => pth r ++ [(nI p).toInt64]
theorem pth_len : ∀ r, (pth r).length = r.length := by
  intro r
  induction r with
  | nil => rfl
  | cons p r ih =>
    show (pth r ++ [(nI p).toInt64]).length = r.length + 1
    rw [List.length_append, ih]
    rfl
def kyF (c L : Nat) (P0 : Nat → Nat) (lo : Bool) (b : List Nat) : Int32 := if lo = true then nI b.length else if b = [] then -1 else nI (psT c L P0 b (12 + P0 14)) - nI (P0 (12 + P0 14))
def stF (c L : Nat) (P0 : Nat → Nat) (lo : Bool) (b τ : List Nat) : List Nat := if kyF c L P0 lo τ ≤ kyF c L P0 lo b then b else τ
section CH
variable {w w1 : Wd} {c L M : Nat} {P0 : Nat → Nat} {ot : Bool}
/-- the path lies in a row -/
def rwT (w : Wd) (a : Nat) : List Nat → Prop
  | [] => True
  | p :: r => w.1 a r.length = nI p ∧ rwT w a r
theorem rwT_keep {a : Nat} : ∀ r : List Nat, (∀ i, i < r.length → w1.1 a i = w.1 a i) → rwT w a r → rwT w1 a r := by
  intro r
  induction r with
  | nil => intro _ _; trivial
  | cons p r ih =>
    intro h m
    have hl : (p :: r).length = r.length + 1 := rfl
    exact ⟨by rw [h r.length (by omega)]; exact m.1, ih (fun i hi => h i (by omega)) m.2⟩
theorem trT_row : ∀ r : List Nat, trT w c L P0 r → rwT w 89 r := by
  intro r
  induction r with
  | nil => intro _; trivial
  | cons p r ih => intro h; exact ⟨h.2.1, ih h.2.2⟩
theorem c_tploop {k2 : Wd → Option Wd} {D : Nat} (hD : D ≤ 6) : ∀ (r : List Nat) (fu : Nat) (w : Wd), r.length ≤ D → w.1 87 5 = nI D → rwT w 89 r → rowC w [] → ∃ w1, L_X10_tellPath_6 k2 (fu + r.length) (nI 0) w = L_X10_tellPath_6 k2 fu (nI r.length) w1 ∧ rowC w1 (pth r) ∧ same [82] [83] w w1 := by
  intro r
  induction r with
  | nil => intro fu w _ _ _ h; exact ⟨w, rfl, h, same_rf w⟩
  | cons p r ih =>
    intro fu w hl h5 hr hc
    have hl2 : (p :: r).length = r.length + 1 := rfl
    obtain ⟨w1, e1, c1, s1⟩ := ih (fu + 1) w (by omega) h5 hr.2 hc
    obtain ⟨w2, e2, c2, s2⟩ := d_add c1 (by rw [pth_len]; omega) (nI p).toInt64
    refine ⟨w2, ?_, c2, same_tr s1 s2⟩
    rw [hl2, show fu + (r.length + 1) = fu + 1 + r.length by omega, e1]
    show (if (w1.1 87 5) ≤ nI r.length then _ else _) = _
    rw [s1.1 87 (by decide), h5, if_neg (nI_ge (by omega) (by omega)), if_pos (ib_nI (by omega) (by decide)), nI_clamp (by omega), s1.1 89 (by decide), hr.1, e2, bv_eq, bd_eq, nI_1]
theorem c_tellPath {r : List Nat} (h : TS w c L P0 ot M r) : ∃ w1, D_X10_tellPath w = some w1 ∧ rowC w1 (pth r) ∧ same [82] [83] w w1 := by
  obtain ⟨w1, t1, t2, t3⟩ := d_clear w
  have h5 : w1.1 87 5 = nI r.length := by rw [t3.1 87 (by decide)]; exact h.1
  obtain ⟨w2, e2, c2, s2⟩ := c_tploop (k2 := J_X10_tellPath_x31_1) (D := r.length) h.2.2.2.2.2.2.1.1 r (FU - r.length) w1 (Nat.le_refl _) h5 (rwT_keep r (fun i _ => by rw [t3.1 89 (by decide)]) (trT_row r h.2.2.2.2.1)) t2
  have h6 := h.2.2.2.2.2.2.1.1
  refine ⟨w2, ?_, c2, same_tr t3 s2⟩
  unfold D_X10_tellPath
  rw [nI_0, show FU - r.length + r.length = FU by unfold FU; omega] at e2
  rw [t1, bv_eq, e2, show FU - r.length = (FU - r.length - 1) + 1 by unfold FU; omega]
  show (if (w2.1 87 5) ≤ nI r.length then _ else _) = _
  rw [s2.1 87 (by decide), h5, if_pos (nI_le (Nat.le_refl _) (by omega))]
  rfl
theorem TS_same {r : List Nat} (h : TS w c L P0 ot M r) (s : same [82] [83] w w1) : TS w1 c L P0 ot M r := by
  obtain ⟨t5, t6, t7, t8, tr, tp, ok, tM⟩ := h
  refine ⟨by rw [s.1 87 (by decide)]; exact t5, by rw [s.1 87 (by decide)]; exact t6, by rw [s.1 87 (by decide)]; exact t7, by rw [s.1 87 (by decide)]; exact t8, trT_keep r (fun a h1 h2 => by rw [s.1 a (by have := ok.1; simp only [List.mem_cons, List.not_mem_nil, or_false]; omega)]) (fun i _ => by rw [s.1 89 (by decide)]) tr, posC_same tp s (by decide), ok, tM⟩
theorem c_start (hB : okB c L (P0 14) P0) (hM : M ≤ 6) (h : isAt w 0 c P0) (hp : posC w) : ∃ w1, D_X10_start 0 (nI M) (if ot = true then 1 else 0) (nI L) w = some w1 ∧ TS w1 c L P0 ot M [] ∧ qC ET [] w w1 := by
  obtain ⟨c', P', z⟩ := hp 54 (by decide)
  have htk := d_take (w := w) (q := 54) (by decide) (by decide) (by decide) z h
  have at1 : isAt (pW w 54 c P0) 54 c P0 := pW_at _ _ _ _
  have q1 : qC ET [] w (pW w 54 c P0) := qC_at (r := 54) (by decide) pW_but (by decide) (by decide) ⟨_, _, at1⟩
  generalize pW w 54 c P0 = w1 at htk at1 q1
  have q2 : qC ET [] w (wI (wI (wI (wI w1 87 5 0) 87 6 (nI M)) 87 8 (if ot = true then 1 else 0)) 87 7 (nI L)) := qC_tr q1 (qC_tr (qC_tr (qC_tr (qC_wI (by decide) (by decide)) (qC_wI (by decide) (by decide))) (qC_wI (by decide) (by decide))) (qC_wI (by decide) (by decide)))
  refine ⟨_, ?_, ⟨?_, ?_, wI_at, ?_, ?_, q2.2 hp, ⟨by decide, by simp⟩, Nat.zero_le _⟩, q2⟩
  · unfold D_X10_start
    rw [if_pos (by decide), bd_eq, show 54 + 3 * (0 : Int32).toNatClampNeg = 54 from by decide, htk, bv_eq, bd_eq, show (6 : Int32) = nI 6 from by decide +kernel, imin_nn (by omega) (by omega), show min M 6 = M by omega, bd_eq, if_pos (show b01 (if ot = true then 1 else 0) = true by cases ot <;> decide), bd_eq, bd_eq]
  · rw [wI_at_ne (by decide), wI_at_ne (by decide), wI_at_ne (by decide), wI_at]; rfl
  · rw [wI_at_ne (by decide), wI_at_ne (by decide), wI_at]
  · rw [wI_at_ne (by decide), wI_at]
  · show isAt _ 54 c P0
    unfold isAt at at1 ⊢
    rw [wI_r (by decide), wI_r (by decide), wI_r (by decide), wI_r (by decide), wI_r (by decide), wI_r (by decide), wI_r (by decide), wI_r (by decide), wI_r (by decide), wI_r (by decide), wI_r (by decide), wI_r (by decide)]
    exact at1
theorem c_here {r : List Nat} (h : TS w c L P0 ot M r) : D_X10_here w = some (54 + 3 * r.length, w) := by
  have h6 := h.2.2.2.2.2.2.1.1
  unfold D_X10_here
  rw [h.1, if_pos (ib_nI (by omega) (by decide)), bd_eq, nI_clamp (by omega)]
theorem node_ne {r : List Nat} : [] ∉ sbT c L P0 ot (M - r.length) r ++ rsT c L P0 ot M r := by
  have key : ∀ (f : List Nat → List (List Nat)) (hf : ∀ s, [] ∉ f s) (s : List Nat) m p, [] ∉ kdT c L P0 f s m p := by
    intro f hf s m
    induction m with
    | zero => intro p hmem; cases hmem
    | succ m ihm =>
      intro p hmem
      unfold kdT at hmem
      rcases List.mem_append.mp hmem with z | z
      · split at z
        · cases z
        · rcases List.mem_cons.mp z with z | z
          · cases z
          · exact hf _ z
      · exact ihm _ z
  have keyS : ∀ n s, [] ∉ sbT c L P0 ot n s := by
    intro n
    induction n with
    | zero => intro s hmem; cases hmem
    | succ n ihn =>
      intro s hmem
      unfold sbT at hmem
      split at hmem
      · cases hmem
      · exact key _ ihn s c 0 hmem
  have keyR : ∀ s, [] ∉ rsT c L P0 ot M s := by
    intro s
    induction s with
    | nil => intro hmem; cases hmem
    | cons p s ihs =>
      intro hmem
      rcases List.mem_append.mp hmem with z | z
      · exact key _ (keyS _) s _ _ z
      · exact ihs z
  intro hin
  rcases List.mem_append.mp hin with z | z
  · exact keyS _ _ z
  · exact keyR _ z
theorem c_chloop2 {k4 : Int32 → Wd → Option (Int32 × Wd)} (hB : okB c L (P0 14) P0) : ∀ (l : List (List Nat)) (fu j : Nat) (r b : List Nat) (w : Wd), l.length < fu → j + l.length < 900000 → TS w c L P0 true 6 r → isAt w 0 c P0 → sbT c L P0 true (6 - r.length) r ++ rsT c L P0 true 6 r = l → (b ≠ [] → rowC w (pth b)) → ∃ w1, L_X11_chain_35 k4 fu (kyF c L P0 false b) (nI j) w = k4 (kyF c L P0 false (l.foldl (stF c L P0 false) b)) w1 ∧ qC EC1 [83] w w1 ∧ (l.foldl (stF c L P0 false) b ≠ [] → rowC w1 (pth (l.foldl (stF c L P0 false) b))) := by
  intro l
  have hM6 : (1000000 : Int32) = nI 1000000 := by decide +kernel
  have sub : ∀ a ∈ ET, a ∈ EC1 := by decide
  induction l with
  | nil =>
    intro fu j r b w hf hj h h0 hl hb
    obtain ⟨fu, rfl⟩ : ∃ n', fu = n' + 1 := ⟨fu - 1, by have : ([] : List (List Nat)).length = 0 := rfl; omega⟩
    rcases d_step hB (by decide) h with ⟨w1, e1, q1, -⟩ | ⟨q, w1, e1, q1, T1, e2⟩
    · refine ⟨w1, ?_, ⟨same_sub q1.1 sub (by simp), q1.2⟩, fun hne => rowC_same (hb hne) q1.1 (by decide) (by decide)⟩
      unfold L_X11_chain_35
      rw [hM6, if_neg (nI_ge (by have : ([] : List (List Nat)).length = 0 := rfl; omega) (by decide)), e1, bc_eq, if_pos rfl]
      rfl
    · rw [hl] at e2
      cases e2
  | cons τ l ih =>
    intro fu j r b w hf hj h h0 hl hb
    have hll : (τ :: l).length = l.length + 1 := rfl
    obtain ⟨fu, rfl⟩ : ∃ n', fu = n' + 1 := ⟨fu - 1, by omega⟩
    rcases d_step hB (by decide) h with ⟨w1, e1, q1, e2⟩ | ⟨q, w1, e1, q1, T1, e2⟩
    · rw [hl] at e2
      cases e2
    · rw [hl] at e2
      injection e2 with eq1 eq2
      subst eq1
      have a0 : isAt w1 0 c P0 := isAt_same h0 q1.1 (by decide)
      have hm := hB.2.2.2.1
      have at1 := trT_top τ T1.2.2.2.2.1
      have r1 : b ≠ [] → rowC w1 (pth b) := fun hne => rowC_same (hb hne) q1.1 (by decide) (by decide)
      have q1' : qC EC1 [83] w w1 := ⟨same_sub q1.1 sub (by simp), q1.2⟩
      have hτ : τ ≠ [] := fun z => node_ne (by rw [hl, z]; exact List.mem_cons_self)
      have hky : kyF c L P0 false τ = nI (psT c L P0 τ (12 + P0 14)) - nI (P0 (12 + P0 14)) := by
        unfold kyF
        rw [if_neg (by decide), if_neg hτ]
      have i2 : ib (nI (P0 14)) 2 = true := ib_nI (by omega) (by decide)
      have hstep : L_X11_chain_35 k4 (fu + 1) (kyF c L P0 false b) (nI j) w = if kyF c L P0 false τ ≤ kyF c L P0 false b then L_X11_chain_35 k4 fu (kyF c L P0 false b) (nI (j + 1)) w1 else bv (D_X10_tellPath w1) fun w18 => L_X11_chain_35 k4 fu (kyF c L P0 false τ) (nI (j + 1)) w18 := by
        show (if (1000000 : Int32) ≤ nI j then _ else _) = _
        rw [hM6, if_neg (nI_ge (by omega) (by decide)), e1, bc_eq, if_neg (by decide), c_here T1, bc_eq, isAt_m a0, if_pos i2, if_pos i2, nI_clamp (by omega), at_P at1 (by omega), at_P a0 (by omega), bd_eq, bd_eq, ← hky]
        unfold J_X11_chain_j105_1
        simp only [bd_eq, nI_1]
      have hfold : (τ :: l).foldl (stF c L P0 false) b = l.foldl (stF c L P0 false) (stF c L P0 false b τ) := rfl
      rw [hstep, hfold]
      by_cases hle : kyF c L P0 false τ ≤ kyF c L P0 false b
      · have e : stF c L P0 false b τ = b := if_pos hle
        rw [if_pos hle, e]
        obtain ⟨w2, f1, f2, f3⟩ := ih fu (j + 1) τ b w1 (by omega) (by omega) T1 a0 eq2.symm r1
        exact ⟨w2, f1, qC_tr q1' f2, f3⟩
      · have e : stF c L P0 false b τ = τ := if_neg hle
        obtain ⟨w2, t1, t2, t3⟩ := c_tellPath T1
        obtain ⟨w3, f1, f2, f3⟩ := ih fu (j + 1) τ τ w2 (by omega) (by omega) (TS_same T1 t3) (isAt_same a0 t3 (by decide)) eq2.symm (fun _ => t2)
        rw [if_neg hle, e, t1, bv_eq]
        exact ⟨w3, f1, qC_tr q1' (qC_tr (qC_hi t3 (by decide) (by decide) (by decide)) f2), f3⟩
theorem c_lgloop {k4 : Int32 → Wd → Option (Int32 × Wd)} (hB : okB c L (P0 14) P0) : ∀ (l : List (List Nat)) (fu j : Nat) (r b : List Nat) (w : Wd), l.length < fu → j + l.length < 900000 → TS w c L P0 true 6 r → isAt w 0 c P0 → sbT c L P0 true (6 - r.length) r ++ rsT c L P0 true 6 r = l → (b ≠ [] → rowC w (pth b)) → ∃ w1, L_X11_longest_35 k4 fu (kyF c L P0 true b) (nI j) w = k4 (kyF c L P0 true (l.foldl (stF c L P0 true) b)) w1 ∧ qC EC1 [83] w w1 ∧ (l.foldl (stF c L P0 true) b ≠ [] → rowC w1 (pth (l.foldl (stF c L P0 true) b))) := by
  intro l
  have hM6 : (1000000 : Int32) = nI 1000000 := by decide +kernel
  have sub : ∀ a ∈ ET, a ∈ EC1 := by decide
  induction l with
  | nil =>
    intro fu j r b w hf hj h h0 hl hb
    obtain ⟨fu, rfl⟩ : ∃ n', fu = n' + 1 := ⟨fu - 1, by have : ([] : List (List Nat)).length = 0 := rfl; omega⟩
    rcases d_step hB (by decide) h with ⟨w1, e1, q1, -⟩ | ⟨q, w1, e1, q1, T1, e2⟩
    · refine ⟨w1, ?_, ⟨same_sub q1.1 sub (by simp), q1.2⟩, fun hne => rowC_same (hb hne) q1.1 (by decide) (by decide)⟩
      unfold L_X11_longest_35
      rw [hM6, if_neg (nI_ge (by have : ([] : List (List Nat)).length = 0 := rfl; omega) (by decide)), e1, bc_eq, if_pos rfl]
      rfl
    · rw [hl] at e2
      cases e2
  | cons τ l ih =>
    intro fu j r b w hf hj h h0 hl hb
    have hll : (τ :: l).length = l.length + 1 := rfl
    obtain ⟨fu, rfl⟩ : ∃ n', fu = n' + 1 := ⟨fu - 1, by omega⟩
    rcases d_step hB (by decide) h with ⟨w1, e1, q1, e2⟩ | ⟨q, w1, e1, q1, T1, e2⟩
    · rw [hl] at e2
      cases e2
    · rw [hl] at e2
      injection e2 with eq1 eq2
      subst eq1
      have a0 : isAt w1 0 c P0 := isAt_same h0 q1.1 (by decide)
      have hm := hB.2.2.2.1
      have at1 := trT_top τ T1.2.2.2.2.1
      have r1 : b ≠ [] → rowC w1 (pth b) := fun hne => rowC_same (hb hne) q1.1 (by decide) (by decide)
      have q1' : qC EC1 [83] w w1 := ⟨same_sub q1.1 sub (by simp), q1.2⟩
      have hτ : τ ≠ [] := fun z => node_ne (by rw [hl, z]; exact List.mem_cons_self)
      have hky : kyF c L P0 true τ = nI τ.length := if_pos rfl
      have hstep : L_X11_longest_35 k4 (fu + 1) (kyF c L P0 true b) (nI j) w = if kyF c L P0 true τ ≤ kyF c L P0 true b then L_X11_longest_35 k4 fu (kyF c L P0 true b) (nI (j + 1)) w1 else bv (D_X10_tellPath w1) fun w18 => L_X11_longest_35 k4 fu (kyF c L P0 true τ) (nI (j + 1)) w18 := by
        show (if (1000000 : Int32) ≤ nI j then _ else _) = _
        rw [hM6, if_neg (nI_ge (by omega) (by decide)), e1, bc_eq, if_neg (by decide), bd_eq, T1.1, bd_eq, ← hky]
        unfold J_X11_longest_j82_1
        simp only [bd_eq, nI_1]
      have hfold : (τ :: l).foldl (stF c L P0 true) b = l.foldl (stF c L P0 true) (stF c L P0 true b τ) := rfl
      rw [hstep, hfold]
      by_cases hle : kyF c L P0 true τ ≤ kyF c L P0 true b
      · have e : stF c L P0 true b τ = b := if_pos hle
        rw [if_pos hle, e]
        obtain ⟨w2, f1, f2, f3⟩ := ih fu (j + 1) τ b w1 (by omega) (by omega) T1 a0 eq2.symm r1
        exact ⟨w2, f1, qC_tr q1' f2, f3⟩
      · have e : stF c L P0 true b τ = τ := if_neg hle
        obtain ⟨w2, t1, t2, t3⟩ := c_tellPath T1
        obtain ⟨w3, f1, f2, f3⟩ := ih fu (j + 1) τ τ w2 (by omega) (by omega) (TS_same T1 t3) (isAt_same a0 t3 (by decide)) eq2.symm (fun _ => t2)
        rw [if_neg hle, e, t1, bv_eq]
        exact ⟨w3, f1, qC_tr q1' (qC_tr (qC_hi t3 (by decide) (by decide) (by decide)) f2), f3⟩
end CH
