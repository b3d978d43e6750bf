/-! the reference's tree; chain and longest -/
abbrev ES : List Nat := [133, 134, 135, 136, 137, 138, 139, 140, 141, 143, 144, 145, 146, 147, 148, 149]
abbrev FS : List Nat := [19, 20, 21, 32, 33, 36, 38]
/-- what lies at depth d and above stays -/
def gr (F T : List Nat) (d : Nat) (u u1 : Wd) : Prop := sameR ES F T [] u u1 ∧ (arrM u → arrM u1) ∧ (∀ a, 133 ≤ a → a ≤ 133 + d → u1.1 a = u.1 a) ∧ ∀ i, i < d → u1.1 140 i = u.1 140 i
section GR
variable {F T : List Nat} {d : Nat} {u u1 u2 : Wd}
theorem gr_rf (u : Wd) : gr F T d u u := ⟨sameR_rf u, fun h => h, fun _ _ _ => rfl, fun _ _ => rfl⟩
theorem gr_tr (h1 : gr F T d u u1) (h2 : gr F T d u1 u2) : gr F T d u u2 := ⟨sameR_tr h1.1 h2.1, fun h => h2.2.1 (h1.2.1 h), fun a x y => (h2.2.2.1 a x y).trans (h1.2.2.1 a x y), fun i hi => (h2.2.2.2 i hi).trans (h1.2.2.2 i hi)⟩
theorem gr_up (h : gr F T (d + 1) u u1) : gr F T d u u1 := ⟨h.1, h.2.1, fun a x y => h.2.2.1 a x (by omega), fun i hi => h.2.2.2 i (by omega)⟩
theorem gr_f {k : Nat} {v : Int32} (hk : k ∈ F) : gr F T d u (wI u 119 k v) := ⟨sameR_f hk, fun m => arrM_same (E := []) (F := [k]) (T := []) (Z := []) m (sameR_f (by simp)) (by simp), fun a h1 h2 => wI_r (by omega), fun i hi => by rw [wI_r (by decide)]⟩
theorem gr_141 {k : Nat} {v : Int32} (h6 : d ≤ 6) : gr F T d u (wI u 141 k v) := ⟨sameR_r (by decide) (by decide), fun m => arrM_same (E := [141]) (F := []) (T := []) (Z := []) m (sameR_r (by simp) (by decide)) (by decide), fun a h1 h2 => wI_r (by omega), fun i hi => by rw [wI_r (by decide)]⟩
theorem gr_140 {v : Int32} (h6 : d ≤ 6) : gr F T d u (wI u 140 d v) := ⟨sameR_r (by decide) (by decide), fun m => arrM_same (E := [140]) (F := []) (T := []) (Z := []) m (sameR_r (by simp) (by decide)) (by decide), fun a h1 h2 => wI_r (by omega), fun i hi => wI_at_ne (by omega)⟩
theorem gr_qM (h : gr F T d u u1) (hF : ∀ a ∈ F, a ∈ FM1) (hT : ∀ a ∈ T, a ∈ [122]) : qM FM1 [122] u u1 := ⟨sameR_sub h.1 (by decide) hF hT (by simp), h.2.1⟩
theorem isArr_T {i : Nat} (h : i ≤ 6) : isArr (133 + i) := by
  unfold isArr
  omega
end GR
section GO
variable {u : Wd} {c L : Nat} {P0 : Nat → Nat} {F T : List Nat}
/-- what the recursions read -/
def tdM (u : Wd) (c L : Nat) (P0 : Nat → Nat) (r : List Nat) : Prop := isM u (133 + r.length) (psT c L P0 r) ∧ rwT u 140 r ∧ arrM u ∧ u.1 119 1 = nI c ∧ u.1 119 2 = nI L ∧ okT c r
theorem tdM_gr {r : List Nat} {u1 : Wd} (h : tdM u c L P0 r) (g : gr F T r.length u u1) (h1 : 1 ∉ F) (h2 : 2 ∉ F) : tdM u1 c L P0 r := by
  obtain ⟨a, b, d, e, f, ok⟩ := h
  refine ⟨⟨by rw [g.2.2.1 _ (by omega) (by omega)]; exact a.1, a.2⟩, rwT_keep r (fun i hi => g.2.2.2 i hi) b, g.2.1 d, (g.1.2.1 1 h1).trans e, (g.1.2.1 2 h2).trans f, ok⟩
theorem m_ref {r : List Nat} {p : Nat} (hB : okB c L (P0 14) P0) (h : tdM u c L P0 r) (hp : p < c) : D_X12_refuses (133 + r.length) (nI p) u = some (if psT c L P0 r (psT c L P0 r 14 * c + p) = 0 then -2 else 0, u) := by
  obtain ⟨a, b, d, e, f, ok⟩ := h
  obtain ⟨hP, -⟩ := psT_ok (L := L) hB r ok
  exact d_refuses (arr_ln (isArr_T ok.1)).1 a.1 e hP.1 hP.2.1 hP.2.2.2.1 hP.2.2.2.2.2 hp
/-- a child is laid one row further -/
theorem m_child {r : List Nat} {p : Nat} (hB : okB c L (P0 14) P0) (h : tdM u c L P0 r) (h5 : r.length ≤ 5) (hp : p < c) (hF : ∀ a ∈ [19, 20, 21], a ∈ F) (h1 : 1 ∉ F) (h2 : 2 ∉ F) : ∃ u1 u2, D_X12_lay (133 + r.length) (133 + (r.length + 1)) 0 u = some u1 ∧ D_X12_goMove (133 + (r.length + 1)) (nI p) u1 = some u2 ∧ gr F T r.length u u2 ∧ isM u2 (133 + (p :: r).length) (psT c L P0 (p :: r)) ∧ u2.1 119 19 = gainS c L (psT c L P0 r 14) p (psT c L P0 r) ∧ tdM (wI u2 140 r.length (nI p)) c L P0 (p :: r) ∧ gr F T r.length u (wI u2 140 r.length (nI p)) ∧ (∀ a, a ≠ 133 + (r.length + 1) → a ≠ 119 → a ≠ 140 → (wI u2 140 r.length (nI p)).1 a = u.1 a) ∧ (∀ k, k ≠ 19 → k ≠ 20 → k ≠ 21 → (wI u2 140 r.length (nI p)).1 119 k = u.1 119 k) ∧ ∀ a, (wI u2 140 r.length (nI p)).2.1 a = u.2.1 a := by
  have h' := h
  obtain ⟨a, b, d, e, f, ok⟩ := h
  obtain ⟨hP, -⟩ := psT_ok (L := L) hB r ok
  obtain ⟨u1, u2, e1, e2, i2, s, q, f1, f2, f3⟩ := m_try (a := 133 + r.length) (b := 133 + (r.length + 1)) (arr_ln (isArr_T ok.1)).1 (isArr_T (by omega)) (by omega) a d e f hP hp
  have g : gr F T r.length u u2 := ⟨sameR_sub s (fun x hx => by
    rw [List.mem_singleton.mp hx]
    simp only [List.mem_cons, List.not_mem_nil, or_false]
    omega) hF (by simp) (by simp), q.2, fun x h1 h2 => s.1 x (by simp only [List.mem_singleton]; omega) (by omega), fun i hi => by rw [s.1 140 (by simp only [List.mem_singleton]; omega) (by decide)]⟩
  have g2 : gr F T r.length u (wI u2 140 r.length (nI p)) := gr_tr g (gr_140 (by omega))
  have i3 : isM (wI u2 140 r.length (nI p)) (133 + (p :: r).length) (psT c L P0 (p :: r)) := ⟨by rw [wI_r (by have : (p :: r).length = r.length + 1 := rfl; omega)]; exact i2.1, i2.2⟩
  refine ⟨u1, u2, e1, e2, g, i2, f1, ⟨i3, ⟨wI_at, rwT_keep r (fun i hi => g2.2.2.2 i hi) b⟩, g2.2.1 d, (g2.1.2.1 1 h1).trans e, (g2.1.2.1 2 h2).trans f, ⟨by show r.length + 1 ≤ 6; omega, fun x hx => ?_⟩⟩, g2, fun a x1 x2 x3 => by rw [wI_r x3, s.1 a (by simpa using x1) x2], fun k x1 x2 x3 => by rw [wI_r (by decide), s.2.1 k (by simp only [List.mem_cons, List.not_mem_nil, or_false]; omega)], fun a => s.2.2.1 a (by simp)⟩
  rcases List.mem_cons.mp hx with z | z
  · rw [z]; exact hp
  · exact ok.2 x z
/-- the best path so far -/
def bsM (u : Wd) (c L : Nat) (P0 : Nat → Nat) (b : List Nat) : Prop := u.1 119 32 = nI b.length ∧ u.1 119 33 = kyF c L P0 false b ∧ rwT u 141 b ∧ b.length ≤ 6
def gnT (c L : Nat) (P0 : Nat → Nat) (r : List Nat) : Int32 := nI (psT c L P0 r (12 + P0 14)) - nI (P0 (12 + P0 14))
theorem gnT_step {r : List Nat} {p : Nat} (hB : okB c L (P0 14) P0) (ok : okT c r) (hp : p < c) (ht : psT c L P0 r 14 = P0 14) : gnT c L P0 r + gainS c L (psT c L P0 r 14) p (psT c L P0 r) = gnT c L P0 (p :: r) := by
  have hm := hB.2.2.2.1
  unfold gnT gainS
  rw [ht]
  have e : psT c L P0 (p :: r) (12 + P0 14) = mvB c L (P0 14) p (psT c L P0 r) (12 + P0 14) := by
    show mvP c L (psT c L P0 r 14) p (psT c L P0 r) (12 + P0 14) = _
    rw [ht]
    exact mvB_lo (by omega) (by omega)
  rw [e]
  grind
/-- the line is copied -/
theorem m_line {k : Wd → Option Wd} {rec : Int32 → Int32 → Int32 → Int32 → Wd → Option Wd} {x1 x3 x4 : Int32} {d : Nat} (hd : d ≤ 6) : ∀ (n i fu : Nat) (u : Wd), n + i = d → n < fu → (∀ j, j < i → u.1 141 j = u.1 140 j) → ∃ u1, L_X12_goChain_41 rec x1 (nI d) x3 x4 k fu (nI i) u = k u1 ∧ gr F T d u u1 ∧ (∀ j, j < d → u1.1 141 j = u.1 140 j) ∧ ∀ a, a ≠ 141 → u1.1 a = u.1 a := by
  intro n
  induction n with
  | zero =>
    intro i fu u hi hf hj
    obtain ⟨fu, rfl⟩ : ∃ n', fu = n' + 1 := ⟨fu - 1, by omega⟩
    refine ⟨u, ?_, gr_rf u, fun j h => hj j (by omega), fun _ _ => rfl⟩
    unfold L_X12_goChain_41
    rw [if_pos (nI_le (by omega) (by omega))]
  | succ n ih =>
    intro i fu u hi hf hj
    obtain ⟨fu, rfl⟩ : ∃ n', fu = n' + 1 := ⟨fu - 1, by omega⟩
    obtain ⟨u1, e1, g1, j1, k1⟩ := ih (i + 1) fu (wI u 141 i (u.1 140 i)) (by omega) (by omega) (fun j h => by
      rw [wI_r (show (140 : Nat) ≠ 141 by decide)]
      by_cases e : j = i
      · subst e; exact wI_at
      · rw [wI_at_ne e]; exact hj j (by omega))
    refine ⟨u1, ?_, gr_tr (gr_141 hd) g1, fun j h => by rw [j1 j h, wI_r (by decide)], fun a ha => by rw [k1 a ha, wI_r ha]⟩
    unfold L_X12_goChain_41
    rw [if_neg (nI_ge (by omega) (by omega)), if_pos (ib_nI (by omega) (by decide)), if_pos (ib_nI (by omega) (by decide)), bd_eq, bd_eq, nI_clamp (by omega), nI_1, e1]
theorem rwT_ix {a b : Nat} {u1 : Wd} : ∀ r : List Nat, (∀ j, j < r.length → u1.1 b j = u.1 a j) → rwT u a r → rwT u1 b r := by
  intro r
  induction r with
  | nil => intro _ _; trivial
  | cons p r ih =>
    intro h m
    have hl : (p :: r).length = r.length + 1 := rfl
    exact ⟨by rw [h r.length (by omega)]; exact m.1, ih (fun j hj => h j (by omega)) m.2⟩
abbrev FC : List Nat := [19, 20, 21, 32, 33]
theorem bsM_up {lo : Bool} {k : Wd → Option Wd} {rec : Int32 → Int32 → Int32 → Int32 → Wd → Option Wd} {r b : List Nat} (hr : r ≠ []) (h : tdM u c L P0 r) (hb : bsM u c L P0 b) : ∃ u1, (if (if lo = true then (1 : Int32) else 0) = 0 then (if gnT c L P0 r ≤ (u.1 119 33) then (k u) else (J_X12_goChain_j28_4 (nI r.length) (gnT c L P0 r) rec (nI (P0 14)) (if lo = true then 1 else 0) k u)) else (if nI r.length ≤ (u.1 119 32) then (k u) else (J_X12_goChain_j28_4 (nI r.length) (gnT c L P0 r) rec (nI (P0 14)) (if lo = true then 1 else 0) k u))) = k u1 ∧ gr FC T r.length u u1 ∧ bsM u1 c L P0 (stF c L P0 lo b r) := by
  have hky : kyF c L P0 false r = gnT c L P0 r := by
    unfold kyF
    rw [if_neg (by decide), if_neg hr]
    rfl
  have h6 := h.2.2.2.2.2.1
  have up : ∃ u1, J_X12_goChain_j28_4 (nI r.length) (gnT c L P0 r) rec (nI (P0 14)) (if lo = true then 1 else 0) k u = k u1 ∧ gr FC T r.length u u1 ∧ bsM u1 c L P0 r := by
    obtain ⟨u1, e1, g1, j1, k1⟩ := m_line (F := FC) (T := T) (k := J_X12_goChain_x67_3 k) (rec := rec) (x1 := nI (P0 14)) (x3 := gnT c L P0 r) (x4 := if lo = true then 1 else 0) h6 r.length 0 FU (wI (wI u 119 32 (nI r.length)) 119 33 (gnT c L P0 r)) (by omega) (by unfold FU; omega) (fun j hj => by omega)
    rw [nI_0] at e1
    refine ⟨u1, ?_, gr_tr (gr_tr (gr_f (by decide)) (gr_f (by decide))) g1, ?_, ?_, ?_, h6⟩
    · unfold J_X12_goChain_j28_4
      rw [bd_eq, bd_eq, e1]
      rfl
    · rw [k1 119 (by decide), wI_at_ne (by decide), wI_at]
    · rw [k1 119 (by decide), wI_at, hky]
    · refine rwT_ix (u := u) (a := 140) r (fun j hj => ?_) h.2.1
      rw [j1 j hj, wI_r (by decide), wI_r (by decide)]
  cases lo with
  | false =>
    rw [if_pos (by rfl)]
    rw [hb.2.1]
    unfold stF
    rw [hky]
    by_cases hle : gnT c L P0 r ≤ kyF c L P0 false b
    · rw [if_pos hle, if_pos hle]
      exact ⟨u, rfl, gr_rf u, hb⟩
    · rw [if_neg hle, if_neg hle]
      exact up
  | true =>
    rw [if_neg (by decide), hb.1]
    have e1 : kyF c L P0 true r = nI r.length := if_pos rfl
    have e2 : kyF c L P0 true b = nI b.length := if_pos rfl
    unfold stF
    rw [e1, e2]
    by_cases hle : nI r.length ≤ nI b.length
    · rw [if_pos hle, if_pos hle]
      exact ⟨u, rfl, gr_rf u, hb⟩
    · rw [if_neg hle, if_neg hle]
      exact up
theorem bsM_gr {b : List Nat} {u1 : Wd} (h : bsM u c L P0 b) (h1 : u1.1 119 32 = u.1 119 32) (h2 : u1.1 119 33 = u.1 119 33) (h3 : u1.1 141 = u.1 141) : bsM u1 c L P0 b := by
  unfold bsM at h ⊢
  rw [h1, h2]
  exact ⟨h.1, h.2.1, rwT_keep b (fun i _ => by rw [h3]) h.2.2.1, h.2.2.2⟩
/-- chain and longest of the reference -/
theorem m_goChain (hB : okB c L (P0 14) P0) (lo : Bool) : ∀ (n fu : Nat) (r b : List Nat) (u : Wd), n < fu → r.length + n = 6 → tdM u c L P0 r → bsM u c L P0 b → ∃ u1, E_X12_goChain fu (nI (P0 14)) (nI r.length) (gnT c L P0 r) (if lo = true then 1 else 0) u = some u1 ∧ gr FC [] r.length u u1 ∧ bsM u1 c L P0 ((sbT c L P0 true n r).foldl (stF c L P0 lo) (if r = [] then b else stF c L P0 lo b r)) := by
  have hm := hB.2.2.2.1
  intro n
  induction n with
  | zero =>
    intro fu r b u hf hr h hb
    obtain ⟨fu, rfl⟩ : ∃ n', fu = n' + 1 := ⟨fu - 1, by omega⟩
    have hne : r ≠ [] := by
      intro z
      rw [z] at hr
      cases hr
    have h0 : ¬ nI r.length ≤ 0 := by rw [nI_le0 (by omega)]; omega
    obtain ⟨u1, e1, g1, b1⟩ := bsM_up (T := []) (lo := lo) (k := J_X12_goChain_j67_5 (nI r.length) (nI (P0 14)) (fun p1 p2 p3 p4 w => E_X12_goChain fu p1 p2 p3 p4 w) (gnT c L P0 r) (if lo = true then 1 else 0)) (rec := fun p1 p2 p3 p4 w => E_X12_goChain fu p1 p2 p3 p4 w) hne h hb
    refine ⟨u1, ?_, g1, ?_⟩
    · unfold E_X12_goChain B_X12_goChain
      rw [bd_eq, if_neg h0, bd_eq, e1]
      unfold J_X12_goChain_j67_5
      rw [show (6 : Int32) = nI 6 from by decide +kernel, if_pos (by rw [show r.length = 6 by omega])]
    · rw [if_neg hne]
      exact b1
  | succ n ih =>
    intro fu r b u hf hr h hb
    obtain ⟨fu, rfl⟩ : ∃ n', fu = n' + 1 := ⟨fu - 1, by omega⟩
    have h6 : ¬ nI r.length = (6 : Int32) := by
      rw [show (6 : Int32) = nI 6 from by decide +kernel, nI_eq (by omega) (by omega)]
      omega
    -- the children
    have kids : psT c L P0 r 14 = P0 14 → ∀ (m p fu2 : Nat) (b : List Nat) (u : Wd), m + p = c → m < fu2 → tdM u c L P0 r → bsM u c L P0 b → ∃ u1, L_X12_goChain_90 (fun p1 p2 p3 p4 w => E_X12_goChain fu p1 p2 p3 p4 w) (nI (P0 14)) (nI r.length) (gnT c L P0 r) (if lo = true then 1 else 0) J_X12_goChain_x183_2 fu2 (nI p) u = some u1 ∧ gr FC [] r.length u u1 ∧ bsM u1 c L P0 ((kdT c L P0 (sbT c L P0 true n) r m p).foldl (stF c L P0 lo) b) := by
      intro ht m
      induction m with
      | zero =>
        intro p fu2 b u hp hf2 h hb
        obtain ⟨fu2, rfl⟩ : ∃ n', fu2 = n' + 1 := ⟨fu2 - 1, by omega⟩
        refine ⟨u, ?_, gr_rf u, hb⟩
        unfold L_X12_goChain_90
        rw [h.2.2.2.1, if_pos (nI_le (by omega) (by have := hB.2.1; omega))]
        rfl
      | succ m ihm =>
        intro p fu2 b u hp hf2 h hb
        obtain ⟨fu2, rfl⟩ : ∃ n', fu2 = n' + 1 := ⟨fu2 - 1, by omega⟩
        have hc6 := hB.2.1
        have hpc : p < c := by omega
        have ib1 : ib (nI r.length) 7 = true := ib_nI (by omega) (by decide)
        have ib2 : ib (nI (r.length + 1)) 7 = true := ib_nI (by omega) (by decide)
        have cl1 : (nI r.length).toNatClampNeg = r.length := nI_clamp (by omega)
        have cl2 : (nI (r.length + 1)).toNatClampNeg = r.length + 1 := nI_clamp (by omega)
        by_cases hz : psT c L P0 r (psT c L P0 r 14 * c + p) = 0
        · have e : kdT c L P0 (sbT c L P0 true n) r (m + 1) p = kdT c L P0 (sbT c L P0 true n) r m (p + 1) := by
            show (if psT c L P0 r (psT c L P0 r 14 * c + p) = 0 then [] else (p :: r) :: sbT c L P0 true n (p :: r)) ++ kdT c L P0 (sbT c L P0 true n) r m (p + 1) = _
            rw [if_pos hz]
            rfl
          obtain ⟨u1, e1, g1, b1⟩ := ihm (p + 1) fu2 b u (by omega) (by omega) h hb
          rw [e]
          refine ⟨u1, ?_, g1, b1⟩
          unfold L_X12_goChain_90
          rw [h.2.2.2.1, if_neg (nI_ge (by omega) (by omega)), if_pos ib1, bd_eq, cl1, m_ref hB h hpc, bc_eq, bd_eq, if_pos hz, if_neg (by decide)]
          unfold J_X12_goChain_j177_1
          rw [bd_eq, nI_1, e1]
        · have e : kdT c L P0 (sbT c L P0 true n) r (m + 1) p = (p :: r) :: (sbT c L P0 true n (p :: r) ++ kdT c L P0 (sbT c L P0 true n) r m (p + 1)) := by
            show (if psT c L P0 r (psT c L P0 r 14 * c + p) = 0 then [] else (p :: r) :: sbT c L P0 true n (p :: r)) ++ kdT c L P0 (sbT c L P0 true n) r m (p + 1) = _
            rw [if_neg hz]
            rfl
          obtain ⟨u1, u2, l1, l2, g2, i2, f19, T3, g3, kr, kf, kj⟩ := m_child (F := FC) (T := []) hB h (by omega) hpc (by decide) (by decide) (by decide)
          have b3 : bsM (wI u2 140 r.length (nI p)) c L P0 b := bsM_gr hb (kf 32 (by decide) (by decide) (by decide)) (kf 33 (by decide) (by decide) (by decide)) (kr 141 (by omega) (by decide) (by decide))
          have hgn := gnT_step hB h.2.2.2.2.2 hpc ht
          obtain ⟨u4, e4, g4, b4⟩ := ih fu (p :: r) b _ (by omega) (by show r.length + 1 + n = 6; omega) T3 b3
          rw [show (p :: r).length = r.length + 1 from rfl] at e4
          have g34 : gr FC [] r.length u u4 := gr_tr g3 (gr_up g4)
          obtain ⟨u5, e5, g5, b5⟩ := ihm (p + 1) fu2 _ u4 (by omega) (by omega) (tdM_gr h g34 (by decide) (by decide)) b4
          refine ⟨u5, ?_, gr_tr g34 g5, ?_⟩
          · unfold L_X12_goChain_90
            rw [h.2.2.2.1, if_neg (nI_ge (by omega) (by omega)), if_pos ib1, bd_eq, cl1, m_ref hB h hpc, bc_eq, bd_eq, if_neg hz, if_pos (by decide), if_pos ib1, bd_eq, nI_1, if_pos ib2, bd_eq, cl2, l1, bv_eq, if_pos ib2, bd_eq, l2, bv_eq, bd_eq, if_pos ib1, bd_eq, f19, hgn, e4, bv_eq]
            unfold J_X12_goChain_j177_1
            rw [bd_eq, nI_1, e5]
          · rw [e, List.foldl_cons, List.foldl_append]
            rw [if_neg (show ¬ (p :: r) = [] from fun z => by cases z)] at b5
            exact b5
    have tail : ∀ (b : List Nat) (u : Wd), tdM u c L P0 r → bsM u c L P0 b → ∃ u1, J_X12_goChain_j67_5 (nI r.length) (nI (P0 14)) (fun p1 p2 p3 p4 w => E_X12_goChain fu p1 p2 p3 p4 w) (gnT c L P0 r) (if lo = true then 1 else 0) u = some u1 ∧ gr FC [] r.length u u1 ∧ bsM u1 c L P0 ((sbT c L P0 true (n + 1) r).foldl (stF c L P0 lo) b) := by
      intro b u h hb
      have hP := (psT_ok (L := L) hB r h.2.2.2.2.2).1
      have h14 := hP.2.2.2.1
      have hln : ln (133 + r.length) = 16 := (arr_ln (isArr_T (by omega))).1
      have hj : J_X12_goChain_j67_5 (nI r.length) (nI (P0 14)) (fun p1 p2 p3 p4 w => E_X12_goChain fu p1 p2 p3 p4 w) (gnT c L P0 r) (if lo = true then 1 else 0) u = if psT c L P0 r 14 = P0 14 then L_X12_goChain_90 (fun p1 p2 p3 p4 w => E_X12_goChain fu p1 p2 p3 p4 w) (nI (P0 14)) (nI r.length) (gnT c L P0 r) (if lo = true then 1 else 0) J_X12_goChain_x183_2 FU 0 u else some u := by
        unfold J_X12_goChain_j67_5
        rw [if_neg h6, if_pos (ib_nI (by omega) (by decide)), bd_eq, nI_clamp (by omega), hln, if_pos (by decide), h.1.1, show (14 : Int32).toNatClampNeg = 14 from by decide, eP_at]
        by_cases he : psT c L P0 r 14 = P0 14
        · rw [if_pos he, if_pos (by rw [he])]
        · rw [if_neg he, if_neg (by rw [nI_eq (by omega) (by omega)]; exact he)]
      have es : sbT c L P0 true (n + 1) r = if true = true ∧ psT c L P0 r 14 ≠ P0 14 then [] else kdT c L P0 (sbT c L P0 true n) r c 0 := rfl
      rw [hj]
      by_cases he : psT c L P0 r 14 = P0 14
      · have es1 : sbT c L P0 true (n + 1) r = kdT c L P0 (sbT c L P0 true n) r c 0 := es.trans (if_neg (fun z => z.2 he))
        have h60 : c < FU := by have := hB.2.1; unfold FU; omega
        obtain ⟨u1, k1, k2, k3⟩ := kids he c 0 FU b u rfl h60 h hb
        rw [nI_0] at k1
        rw [if_pos he, es1]
        exact ⟨u1, k1, k2, k3⟩
      · have es1 : sbT c L P0 true (n + 1) r = [] := es.trans (if_pos ⟨rfl, he⟩)
        rw [if_neg he, es1]
        exact ⟨u, rfl, gr_rf u, hb⟩
    by_cases hne : r = []
    · obtain ⟨u1, e1, g1, b1⟩ := tail b u h hb
      rw [if_pos hne]
      refine ⟨u1, ?_, g1, b1⟩
      unfold E_X12_goChain B_X12_goChain
      rw [bd_eq, if_pos (by rw [hne]; decide), e1]
    · have hlen : r.length ≠ 0 := fun z => hne (List.length_eq_zero_iff.mp z)
      have h0 : ¬ nI r.length ≤ 0 := by rw [nI_le0 (by omega)]; exact hlen
      obtain ⟨u1, e1, g1, b1⟩ := bsM_up (T := []) (lo := lo) (k := J_X12_goChain_j67_5 (nI r.length) (nI (P0 14)) (fun p1 p2 p3 p4 w => E_X12_goChain fu p1 p2 p3 p4 w) (gnT c L P0 r) (if lo = true then 1 else 0)) (rec := fun p1 p2 p3 p4 w => E_X12_goChain fu p1 p2 p3 p4 w) hne h hb
      obtain ⟨u2, e2, g2, b2⟩ := tail _ u1 (tdM_gr h g1 (by decide) (by decide)) b1
      rw [if_neg hne]
      refine ⟨u2, ?_, gr_tr g1 g2, b2⟩
      unfold E_X12_goChain B_X12_goChain
      rw [bd_eq, if_neg h0, bd_eq, e1, e2]
end GO
