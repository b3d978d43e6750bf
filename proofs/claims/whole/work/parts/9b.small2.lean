/-! the constructor of SowingBoards -/
theorem c_X5_pits {l0 : Launch} {cs : Nat → ClassId} {G : va_G} {a q1 q2 : Nat} : CtSI l0 cs G y_X5_pits prog_7_method_3_code 1 .int [.ref a] 0 [(a, .inr (5, [.ref q1, .ref q2, .int 3, .int 0, .int 0]))] [(a, .inr (5, [.ref q1, .ref q2, .int 3, .int 0, .int 0]))] 6 := by
  refine ctSI_of (List.pairwise_singleton _ _) (by decide) (Nat.le_of_ble_eq_true rfl) (fun X hn h fin => ?_)
  show nG G X 0 0 0 [(0, .ref a)] [] [(a, .inr (5, [.ref q1, .ref q2, .int 3, .int 0, .int 0]))]
  refine n_iconst (v := 2) h t_X5_pits_0 (by decide) ?_
  refine n_aload h 0 t_X5_pits_1 rfl ?_
  refine n_get (ci := 5) h 0 2 rfl rfl (by decide) (vtb_at 189 (by decide +kernel) rfl) rfl t_X5_pits_2 ?_
  refine n_imul (v := 6) h t_X5_pits_5 (by decide) ?_
  exact fin _ _ t_X5_pits_6 rfl
theorem c_X6_put {l0 : Launch} {cs : Nat → ClassId} {G : va_G} {a q1 q2 : Nat} {f : Nat → Int32} {p : Int32} (hpw : List.Pairwise (fun p q => p.1 ≠ q.1) ([(a, .inr (6, [.ref q1, .ref q2, .int 0])), (q1, .inl (cs 0, 40, .inl (f)))] : va_W)) : CtSV l0 cs G y_X6_put prog_8_method_4_code 2 [.ref a, .int p] 0 [(a, .inr (6, [.ref q1, .ref q2, .int 0])), (q1, .inl (cs 0, 40, .inl (f)))] [(a, .inr (6, [.ref q1, .ref q2, .int 1])), (q1, .inl (cs 0, 40, .inl (upd (f) 0 p)))] := by
  refine ctSV_of hpw (by decide) (Nat.le_of_ble_eq_true rfl) (fun X hn h fin => ?_)
  show nG G X 0 0 0 [(0, .ref a), (1, .int p)] [] [(a, .inr (6, [.ref q1, .ref q2, .int 0])), (q1, .inl (cs 0, 40, .inl (f)))]
  refine n_aload h 0 t_X6_put_0 rfl ?_
  refine n_get (ci := 6) h 0 2 rfl rfl (by decide) (vtb_at 404 (by decide +kernel) rfl) rfl t_X6_put_1 ?_
  refine n_bipush (v := 40) h t_X6_put_4 (by decide) ?_
  refine n_ge (tgt := 29) h t_X6_put_6 (by decide) (fun q => absurd q (by decide)) (fun _ => ?_)
  refine n_aload h 0 t_X6_put_9 rfl ?_
  refine n_get (ci := 6) h 0 0 rfl rfl (by decide) (vtb_at 402 (by decide +kernel) rfl) rfl t_X6_put_10 ?_
  refine n_aload h 0 t_X6_put_13 rfl ?_
  refine n_get (ci := 6) h 0 2 rfl rfl (by decide) (vtb_at 404 (by decide +kernel) rfl) rfl t_X6_put_14 ?_
  refine n_iload h 1 t_X6_put_17 rfl ?_
  refine n_iast (ws' := [(a, .inr (6, [.ref q1, .ref q2, .int 0])), (q1, .inl (cs 0, 40, .inl (upd (f) 0 p)))]) h 1 rfl (by decide) rfl t_X6_put_18 ?_
  refine n_aload h 0 t_X6_put_19 rfl ?_
  refine n_dup h t_X6_put_20 ?_
  refine n_get (ci := 6) h 0 2 rfl rfl (by decide) (vtb_at 404 (by decide +kernel) rfl) rfl t_X6_put_21 ?_
  refine n_iconst (v := 1) h t_X6_put_24 (by decide) ?_
  refine n_iadd (v := 1) h t_X6_put_25 (by decide) ?_
  refine n_putN (ty := .int) (fs' := [.ref q1, .ref q2, .int 1]) h 2 (ci := 6) rfl (by decide) (vtb_at 404 (by decide +kernel) rfl) rfl (by decide +kernel) rfl rfl (Nat.le_of_ble_eq_true rfl) rfl t_X6_put_26 ?_
  exact fin _ _ t_X6_put_29
theorem my_X6_becomesThing : MY y_X6_becomesThing prog_8_method_2_code 2 none 1 := ⟨vtb_at 470 (by decide +kernel) rfl, vtb_at 149 (by decide +kernel) rfl, ⟨by decide, by decide, by decide +kernel⟩, by decide⟩
theorem mi_X6_becomesThing : MI y_X6_becomesThing := ⟨vtb_at 469 (by decide +kernel) rfl, vtb_at 1 (by decide +kernel) rfl⟩
theorem c_X6_becomesThing {l0 : Launch} {cs : Nat → ClassId} {G : va_G} {a q1 q2 : Nat} {f : Nat → Int32} (hpw : List.Pairwise (fun p q => p.1 ≠ q.1) ([(a, .inr (6, [.ref q1, .ref q2, .int 0])), (q1, .inl (cs 0, 40, .inl (f)))] : va_W)) : CtSV l0 cs G y_X6_becomesThing prog_8_method_2_code 2 [.ref a, .int 116] 1 [(a, .inr (6, [.ref q1, .ref q2, .int 0])), (q1, .inl (cs 0, 40, .inl (f)))] [(a, .inr (6, [.ref q1, .ref q2, .int 1])), (q1, .inl (cs 0, 40, .inl (upd (f) 0 (-116))))] := by
  refine ctSV_of hpw (by decide) (Nat.le_of_ble_eq_true rfl) (fun X hn h fin => ?_)
  show nG G X 0 0 0 [(0, .ref a), (1, .int 116)] [] [(a, .inr (6, [.ref q1, .ref q2, .int 0])), (q1, .inl (cs 0, 40, .inl (f)))]
  refine n_aload h 0 t_X6_becomesThing_0 rfl ?_
  refine n_iconst (v := 0) h t_X6_becomesThing_1 (by decide) ?_
  refine n_putN (ty := .int) (fs' := [.ref q1, .ref q2, .int 0]) h 2 (ci := 6) rfl (by decide) (vtb_at 404 (by decide +kernel) rfl) rfl (by decide +kernel) rfl rfl (Nat.le_of_ble_eq_true rfl) rfl t_X6_becomesThing_2 ?_
  refine n_aload h 0 t_X6_becomesThing_5 rfl ?_
  refine n_iload h 1 t_X6_becomesThing_6 rfl ?_
  refine n_ineg (v := (-116)) h t_X6_becomesThing_7 (by decide) ?_
  refine n_perm (ws' := [(a, .inr (6, [.ref q1, .ref q2, .int 0])), (q1, .inl (cs 0, 40, .inl (f)))] ++ []) (perm_idx [0, 1] 2 rfl (by decide +kernel) rfl) ?_
  refine n_callSV (kc := 0) (ks := 0) (ws1 := [(a, .inr (6, [.ref q1, .ref q2, .int 1])), (q1, .inl (cs 0, 40, .inl (upd (f) 0 (-116))))]) (tl := []) (As := [.int (-116)]) (st := []) h c_X6_put (Or.inl (vtb_at 471 (by decide +kernel) rfl)) my_X6_put mi_X6_put 0 rfl rfl rfl rfl rfl (Nat.le_of_ble_eq_true rfl) (by decide) (Nat.le_of_ble_eq_true rfl) (Nat.le_of_ble_eq_true rfl) t_X6_becomesThing_8 ?_
  show nG G X _ _ _ _ _ [(a, .inr (6, [.ref q1, .ref q2, .int 1])), (q1, .inl (cs 0, 40, .inl (upd (f) 0 (-116))))]
  exact fin _ _ t_X6_becomesThing_11
