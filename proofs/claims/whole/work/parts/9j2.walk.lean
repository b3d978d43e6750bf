/-! the law from its entry: the two are made -/
theorem wl_board {l : Launch} {cs : Nat → ClassId} {G : va_G} {X : Nx} {b : Nat} (h : Okn l cs G X code "SowingBoardsLaw" 1000 601024 7293034) (kk : ∀ bS w1, res_X11_init cs bS w1 → nG G X 119 4322 7 [(0, .ref b)] [.ref bS] w1) : nG G X 0 0 0 [(0, .ref b)] [] [] := by
  refine n_new0 (kc := 0) (ks := 0) (ci := 11) h rfl (vtb_at 166 (by decide +kernel) rfl) (vtb_at 167 (by decide +kernel) rfl) (vtb_at 139 (by decide +kernel) rfl) dfl_11 (Nat.le_of_ble_eq_true rfl) (Nat.le_of_ble_eq_true rfl) tL_0 (fun bS => ?_)
  refine n_dup h tL_3 ?_
  refine n_call0 (kc := 1) (ks := 19) (As := []) (st := [.ref bS]) (tl := []) h c_X11_init (Or.inl (vtb_at 168 (by decide +kernel) rfl)) my_X11_init (vtb_at 169 (by decide +kernel) rfl) rfl rfl rfl (Nat.le_of_ble_eq_true rfl) (by decide) (Nat.le_of_ble_eq_true rfl) (Nat.le_of_ble_eq_true rfl) tL_4 (fun v hv => ?_)
  rw [List.append_nil]
  exact kk bS v hv
theorem wl_split {cs : Nat → ClassId} {a : Nat} {w1 : va_W} (h : res_X12_init cs a w1) : ∃ x1 w2, w1 = x1 :: w2 := by
  obtain ⟨d1, d2, d3, d4, d5, d6, d7, d8, d9, d10, d11, d12, d13, d14, d15, d16, d17, d18, d19, d20, d21, d22, d23, d24, d25, d26, d27, d28, d29, e⟩ := h
  exact ⟨_, _, e⟩
theorem wl_model {l : Launch} {cs : Nat → ClassId} {G : va_G} {X : Nx} {b : Nat} (h : Okn l cs G X code "SowingBoardsLaw" 1000 601024 7293034) (hn : X.2.2.2.2.2.2.2.2.2.2.1 = 8) {bS : Nat} {tl : va_W} (kk : ∀ dM o1 x1 w2, res_X12_init cs dM (x1 :: w2) → nG G X 162 9737 20 [(3, .ref o1), (2, .ref dM), (1, .ref bS), (0, .ref b)] [] (x1 :: (o1, .inl (cs 3, 1, .inr (.inl (fun _ => 0)))) :: (w2 ++ tl))) : nG G X 119 4322 7 [(0, .ref b)] [.ref bS] tl := by
  refine n_astore (n0 := 8) h hn tL_7 rfl (by decide) rfl ?_
  refine n_new0 (kc := 119) (ks := 4322) (ci := 12) h rfl (vtb_at 1331 (by decide +kernel) rfl) (vtb_at 1332 (by decide +kernel) rfl) (vtb_at 152 (by decide +kernel) rfl) dfl_12 (Nat.le_of_ble_eq_true rfl) (Nat.le_of_ble_eq_true rfl) tL_8 (fun dM => ?_)
  refine n_dup h tL_11 ?_
  refine n_call0 (kc := 120) (ks := 4377) (As := []) (st := [.ref dM]) (tl := tl) h c_X12_init (Or.inl (vtb_at 1333 (by decide +kernel) rfl)) my_X12_init (vtb_at 1334 (by decide +kernel) rfl) rfl rfl rfl (Nat.le_of_ble_eq_true rfl) (by decide) (Nat.le_of_ble_eq_true rfl) (Nat.le_of_ble_eq_true rfl) tL_12 (fun v hv => ?_)
  obtain ⟨x1, w2, rfl⟩ := wl_split hv
  rw [List.cons_append]
  refine n_astore (n0 := 8) h hn tL_15 rfl (by decide) rfl ?_
  refine n_iconst (v := 1) h tL_16 (by decide) ?_
  refine n_newa (kc := 161) (ks := 9736) (tl := w2 ++ tl) h 3 (ty := .long) (N' := 1) (a0 := (1, .inr (.inl (fun _ => 0)))) rfl rfl (fun _ _ z => z) (vtb_at 265 (by decide +kernel) rfl) (fun _ => rfl) (by decide) rfl (Nat.le_of_ble_eq_true rfl) (Nat.le_of_ble_eq_true rfl) (Nat.le_of_ble_eq_true rfl) tL_17 (fun o1 => ?_)
  refine n_astore (n0 := 8) h hn tL_19 rfl (by decide) rfl ?_
  exact kk dM o1 x1 w2 hv
