/-! the three calls that may throw, over both -/
theorem rel_mono {B B' : Nat} {w : Wd} (h : Rel B w) (hb : B ≤ B') (hB : B' < 400000) : Rel B' w := by
  obtain ⟨c, L, P, hs, tx, rl, cd, V, kp, cl, si, rw, h1, h2, h3, h4, h5⟩ := h
  obtain ⟨a1, a2, a3, ⟨a4, a5⟩, ⟨a6, a7⟩, a8, a9, a10, a11, a12, a13⟩ := h3
  refine ⟨c, L, P, hs, tx, rl, cd, V, kp, cl, si, rw, h1, h2, ⟨a1, a2, a3, ⟨a4, by omega⟩, ⟨a6, fun Q hQ => ⟨(a7 Q hQ).1, by have := (a7 Q hQ).2; omega⟩⟩, a8, fun i Q hi hk => ⟨(a9 i Q hi hk).1, by have := (a9 i Q hi hk).2; omega⟩, a10, a11, a12, hB⟩, h4, ?_⟩
  obtain ⟨cm, c1, c2⟩ := h5
  exact ⟨cm, by omega, c2⟩
theorem rel_J {B : Nat} {w : Wd} {v : Int64} (h : Rel B w) : Rel B (wJ w 161 0 v) := by
  obtain ⟨c, L, P, hs, tx, rl, cd, V, kp, cl, si, rw, ⟨m1, m2, m3, m4, m5, m6, m7, m8, m9, m10, m11⟩, ⟨n1, n2, n3, n4, n5, n6, n7, n8, n9, n10, n11⟩, h3, h4, h5⟩ := h
  refine ⟨c, L, P, hs, tx, rl, cd, V, kp, cl, si, rw, ⟨m1, m2, m3, m4, m5, ⟨m6.1, fun i v' hi => ?_⟩, m7, m8, m9, m10, m11⟩, ⟨n1, n2, n3, n4, n5, ⟨n6.1, fun i v' hi => ?_⟩, n7, n8, n9, n10, n11⟩, h3, h4, h5⟩
  · show (if 83 = 161 ∧ i = 0 then v else w.2.1 83 i) = v'
    rw [if_neg (by omega)]
    exact m6.2 i v' hi
  · show (if 122 = 161 ∧ i = 0 then v else w.2.1 122 i) = v'
    rw [if_neg (by omega)]
    exact n6.2 i v' hi
theorem rel_on {B : Nat} {u u1 : Wd} (h : Rel B u) (hm : ∀ {c L : Nat} {P : Nat → Nat} {hs : List (Nat → Nat)} {tx rl : List Nat} {kp : Nat → Option (Nat → Nat)} {cl si : List (Int32 × Int32)} {rw : List Int64}, MR u c L P hs tx rl kp cl si rw → MR u1 c L P hs tx rl kp cl si rw ∧ onM u u1) : Rel B u1 := by
  obtain ⟨c, L, P, hs, tx, rl, cd, V, kp, cl, si, rw, h1, h2, h3, h4, cm, c1, c2⟩ := h
  obtain ⟨n1, o⟩ := hm h2
  exact ⟨c, L, P, hs, tx, rl, cd, V, kp, cl, si, rw, CR_on0 ⟨o.1, o.2.1⟩ h1, n1, h3, h4, cm, c1, by rw [o.2.2]; exact c2⟩
theorem rel_ok {B : Nat} {u : Wd} (h : Rel B u) : Rel B (wI u 119 7 0) := rel_on h (fun n => MR_7 n)
theorem rel_no {B : Nat} {u : Wd} (h : Rel B u) : Rel B (wI (wI u 119 7 0) 119 7 1) := rel_on h (fun n => m_lostMR (k := 0) n)
theorem rng_in (x : Int32) (n : Nat) (hn : n < 2 ^ 30) (h : ¬ (x < 0 ∨ nI n ≤ x)) : ∃ i, i < n ∧ x = nI i := by
  have h1 : ¬ x < 0 := fun q => h (Or.inl q)
  have h2 : ¬ nI n ≤ x := fun q => h (Or.inr q)
  have e0 : (0 : Int32).toInt = 0 := by decide
  rw [Int32.lt_iff_toInt_lt, e0] at h1
  rw [Int32.le_iff_toInt_le, nI_toInt (by omega)] at h2
  refine ⟨x.toInt.toNat, by omega, ?_⟩
  apply Int32.toInt_inj.mp
  rw [nI_toInt (by omega)]
  omega
theorem rel_MR {B : Nat} {w : Wd} (h : Rel B w) : ∃ (c L : Nat) (P : Nat → Nat) (hs : List (Nat → Nat)) (tx rl : List Nat) (kp : Nat → Option (Nat → Nat)) (cl si : List (Int32 × Int32)) (rw : List Int64), 2 ≤ c ∧ c ≤ 6 ∧ rw.length ≤ 20 ∧ isAt w 0 c P ∧ rowC w rw ∧ MR w c L P hs tx rl kp cl si rw ∧ ∀ z, MR (wJ w 161 0 z) c L P hs tx rl kp cl si rw := by
  obtain ⟨c, L, P, hs, tx, rl, cd, V, kp, cl, si, rw, ⟨m1, m2, m3, m4, m5, m6, m7, m8, m9, m10, m11⟩, ⟨n1, n2, n3, n4, n5, n6, n7, n8, n9, n10, n11⟩, h3, h4, h5⟩ := h
  refine ⟨c, L, P, hs, tx, rl, kp, cl, si, rw, h3.1, h3.2.1, h3.2.2.2.2.2.2.2.2.2.1, m1, m6, ⟨n1, n2, n3, n4, n5, n6, n7, n8, n9, n10, n11⟩, fun z => ⟨n1, n2, n3, n4, n5, ⟨n6.1, fun i v' hi => ?_⟩, n7, n8, n9, n10, n11⟩⟩
  show (if 122 = 161 ∧ i = 0 then z else w.2.1 122 i) = v'
  rw [if_neg (by omega)]
  exact n6.2 i v' hi
theorem rel_pit {B : Nat} {w : Wd} (h : Rel B w) (x : Int32) : (xokP x w ∧ ∀ z, D_X12_pit x (wJ w 161 0 z) = some (w.1 1 x.toNatClampNeg, wI (wJ w 161 0 z) 119 7 0)) ∨ (xnoP x w ∧ ∃ r, D_X12_pit x w = some (r, wI (wI w 119 7 0) 119 7 1)) := by
  obtain ⟨c, L, P, hs, tx, rl, kp, cl, si, rw, h2, h6, h20, m1, m6, n, nz⟩ := rel_MR h
  have hc : w.1 0 2 = nI c := by rw [m1.1]; rfl
  by_cases hx : x < 0 ∨ nI (2 * c) ≤ x
  · exact Or.inr ⟨d_hasPit_no hc hx, (m_pit n h2 h6).1 x hx⟩
  · obtain ⟨i, hi, rfl⟩ := rng_in x (2 * c) (by omega) hx
    refine Or.inl ⟨⟨d_hasPit (n := 0) hc h6 hi, ib_nI (by omega) (by decide)⟩, fun z => ?_⟩
    rw [(m_pit (nz z) h2 h6).2 i hi, nI_clamp (by omega)]
    have e : w.1 1 i = nI (P i) := by
      rw [m1.2.1]
      unfold sP
      rw [if_pos (by omega)]
    rw [e]
theorem rel_store {B : Nat} {w : Wd} (h : Rel B w) (x : Int32) : (xokT x ∧ ∀ z, D_X12_store x (wJ w 161 0 z) = some (w.1 2 x.toNatClampNeg, wI (wJ w 161 0 z) 119 7 0)) ∨ (xnoT x ∧ ∃ r, D_X12_store x w = some (r, wI (wI w 119 7 0) 119 7 1)) := by
  obtain ⟨c, L, P, hs, tx, rl, kp, cl, si, rw, h2, h6, h20, m1, m6, n, nz⟩ := rel_MR h
  by_cases hx : x < nI 0 ∨ nI 1 < x
  · refine Or.inr ⟨⟨fun q => ?_, fun q => ?_⟩, (m_store n).1 x hx⟩
    · subst q
      exact absurd hx (by decide +kernel)
    · subst q
      exact absurd hx (by decide +kernel)
  · rcases rng_cases x 0 1 (by decide) (by decide) with q | ⟨i, -, hi, rfl⟩
    · exact absurd q hx
    · refine Or.inl ⟨⟨?_, ib_nI (by omega) (by decide)⟩, fun z => ?_⟩
      · rcases Nat.lt_or_ge i 1 with q | q
        · have : i = 0 := by omega
          subst this
          exact Or.inl nI_0
        · have : i = 1 := by omega
          subst this
          exact Or.inr (by decide +kernel)
      · rw [(m_store (nz z)).2 i hi, nI_clamp (by omega)]
        have e : w.1 2 i = nI (P (12 + i)) := by
          rw [m1.2.2]
          unfold tP
          rw [if_pos (by omega)]
        rw [e]
theorem rel_row {B : Nat} {w : Wd} (h : Rel B w) (x : Int32) : (xokL x w ∧ ∀ z, D_X12_row x (wJ w 161 0 z) = some (w.2.1 83 x.toNatClampNeg, wI (wJ w 161 0 z) 119 7 0)) ∨ (xnoL x w ∧ ∃ r, D_X12_row x w = some (r, wI (wI w 119 7 0) 119 7 1)) := by
  obtain ⟨c, L, P, hs, tx, rl, kp, cl, si, rw, h2, h6, h20, m1, m6, n, nz⟩ := rel_MR h
  by_cases hx : x < 0 ∨ nI rw.length ≤ x
  · refine Or.inr ⟨?_, (m_rowAt n h20).1 x hx⟩
    rcases hx with hx | hx
    · exact Or.inl hx
    · refine Or.inr ?_
      rw [m6.1]
      exact Int32.not_lt.mpr hx
  · obtain ⟨i, hi, rfl⟩ := rng_in x rw.length (by omega) hx
    have hv : rw[i]? = some rw[i] := List.getElem?_eq_getElem hi
    refine Or.inl ⟨⟨fun q => hx (Or.inl q), ?_, ib_nI (by omega) (by decide)⟩, fun z => ?_⟩
    · rw [m6.1]
      exact Int32.not_le.mp (fun q => hx (Or.inr q))
    · rw [(m_rowAt (nz z) h20).2 i _ hv, nI_clamp (by omega), m6.2 i _ hv]
theorem cmp_self (x : Int64) : lg_cmp x x = 0 := by
  simp [lg_cmp]
section LT
variable {p : Program} {l : Launch} {e : Env} {s : State} {m : MethodId} {below : List Frame} {meth : Method} {c : Code} {b L : Nat} {xs : Nat → Int32} {ρ : Nat → Nat} {cs : Nat → ClassId} {G : va_G} {a : Nat → Nat} {kc ks : Nat} {w : Wd} {B : Nat} {I : Int32}
theorem lc_5 (B0 : Bs p l s m meth c b L xs ρ cs G a) (hc1 : kc + 1 ≤ 601024) (hc2 : ks + 6 ≤ 7293034) (h1 : vp_in (I + 1) L) (hB : B < 90000) (hR : Rel B w) (kk : ∀ w2, Rel (B + 108) w2 → gG ρ cs G (Lx p l e s m below meth c b (kc + 1) (ks + 6)) 1380 (lo ρ b I) [] w2) : gG ρ cs G (Lx p l e s m below meth c b kc ks) 333 (lo ρ b I) [] w := by
  have h := B0.okx (e := e) (below := below) (kc := kc) (ks := ks) (by omega) (by omega)
  have h9 := B0.okx (e := e) (below := below) hc1 hc2
  refine g_aload_n h 3 tL_333 rfl ?_
  refine g_aload_n h 4 tL_334 rfl ?_
  refine g_iload h 0 tL_335 rfl ?_
  refine g_iconst (v := 1) h tL_337 (by decide) ?_
  refine g_iadd h tL_338 ?_
  refine g_sld B0 h1 tL_339 ?_
  refine g_aload_n h 1 tL_340 rfl ?_
  rcases rel_pit hR (xs (I + 1).toNatClampNeg) with ⟨hk, hz⟩ | ⟨hk, r, hr⟩
  · refine g_lcatch B0 (As := [.ref (ρ 75), .int (xs (I + 1).toNatClampNeg), .ref (ρ 161)]) (st := []) (vtb_at 1244 (by decide +kernel) rfl) (vtb_at 1242 (by decide +kernel) rfl) (vtb_at 1243 (by decide +kernel) rfl) (vtb_at 138 (by decide +kernel) rfl) ⟨by decide, by decide, by decide +kernel⟩ rfl rfl (Nat.le_of_ble_eq_true rfl) hc1 hc2 tL_341 (cL_pit B0.hin hk) ?_
    refine g_istore (n0 := 8) h9 rfl tL_344 (by decide) rfl ?_
    refine g_aload_n h9 3 tL_346 rfl ?_
    refine g_aload_n h9 5 tL_347 rfl ?_
    refine g_iload h9 1 tL_348 rfl ?_
    refine g_iconst (v := 1) h9 tL_350 (by decide) ?_
    refine g_iadd h9 tL_351 ?_
    refine g_sld B0 h1 tL_352 ?_
    refine g_lcall h9 119 (As := [.int (xs (I + 1).toNatClampNeg)]) (st := []) my_X12_pit mi_X12_pit mL_53 rfl (by decide) rfl rfl rfl (Nat.le_of_ble_eq_true rfl) (by decide) tL_353 (S_X12_pit B0.hin (hz ((w.1 1 (xs (I + 1).toNatClampNeg).toNatClampNeg).toInt64))) ?_
    refine g_istore (n0 := 8) h9 rfl tL_356 (by decide) rfl ?_
    refine g_aload_n h9 4 tL_358 rfl ?_
    refine g_lcall (r := 0) h9 119 (As := []) (st := []) my_X12_thrown mi_X12_thrown mL_54 rfl (by decide) rfl rfl rfl (Nat.le_of_ble_eq_true rfl) (by decide) tL_359 (S_X12_thrown (rr := (0, _)) B0.hin rfl) ?_
    refine g_iload h9 1 tL_362 rfl ?_
    refine g_icmp_eq (B := some ()) (E := none) (rr := ()) (tgt := 369) h9 tL_364 (by decide) (if_pos rfl) (fun _ => ?_) (fun q => nomatch q)
    refine g_iload h9 1 tL_369 rfl ?_
    refine g_if_ne (B := none) (E := some ()) (rr := ()) (tgt := 386) h9 tL_371 (by decide) (if_pos rfl) (fun q => nomatch q) (fun _ => ?_)
    refine g_aload_n h9 3 tL_374 rfl ?_
    refine g_iconst (v := 0) h9 tL_375 (by decide) ?_
    refine g_lald (B := some ()) (rr := ()) h9 161 (n0 := 1) rfl (by decide) tL_376 (if_pos (by decide)) (fun _ => ?_)
    refine g_iload h9 0 tL_377 rfl ?_
    refine g_i2l h9 tL_379 ?_
    refine g_lcmp h9 tL_380 ?_
    refine g_if_eq (B := some ()) (E := none) (rr := ()) (tgt := 386) h9 tL_381 (by decide) (if_pos (cmp_self _)) (fun _ => ?_) (fun q => nomatch q)
    refine g_goto (tgt := 1380) h9 tL_386 (by decide) ?_
    refine g_loc h9 [2, 3, 4, 5, 6] rfl ?_
    exact kk _ (rel_mono (rel_ok (rel_J hR)) (by omega) (by omega))
  · refine g_lcatch B0 (As := [.ref (ρ 75), .int (xs (I + 1).toNatClampNeg), .ref (ρ 161)]) (st := []) (vtb_at 1244 (by decide +kernel) rfl) (vtb_at 1242 (by decide +kernel) rfl) (vtb_at 1243 (by decide +kernel) rfl) (vtb_at 138 (by decide +kernel) rfl) ⟨by decide, by decide, by decide +kernel⟩ rfl rfl (Nat.le_of_ble_eq_true rfl) hc1 hc2 tL_341 (xL_pit B0.hin B0.hfl hk) ?_
    refine g_istore (n0 := 8) h9 rfl tL_344 (by decide) rfl ?_
    refine g_aload_n h9 3 tL_346 rfl ?_
    refine g_aload_n h9 5 tL_347 rfl ?_
    refine g_iload h9 1 tL_348 rfl ?_
    refine g_iconst (v := 1) h9 tL_350 (by decide) ?_
    refine g_iadd h9 tL_351 ?_
    refine g_sld B0 h1 tL_352 ?_
    refine g_lcall h9 119 (As := [.int (xs (I + 1).toNatClampNeg)]) (st := []) my_X12_pit mi_X12_pit mL_53 rfl (by decide) rfl rfl rfl (Nat.le_of_ble_eq_true rfl) (by decide) tL_353 (S_X12_pit B0.hin hr) ?_
    refine g_istore (n0 := 8) h9 rfl tL_356 (by decide) rfl ?_
    refine g_aload_n h9 4 tL_358 rfl ?_
    refine g_lcall (r := 1) h9 119 (As := []) (st := []) my_X12_thrown mi_X12_thrown mL_54 rfl (by decide) rfl rfl rfl (Nat.le_of_ble_eq_true rfl) (by decide) tL_359 (S_X12_thrown (rr := (1, _)) B0.hin rfl) ?_
    refine g_iload h9 1 tL_362 rfl ?_
    refine g_icmp_eq (B := some ()) (E := none) (rr := ()) (tgt := 369) h9 tL_364 (by decide) (if_pos rfl) (fun _ => ?_) (fun q => nomatch q)
    refine g_iload h9 1 tL_369 rfl ?_
    refine g_if_ne (B := some ()) (E := none) (rr := ()) (tgt := 386) h9 tL_371 (by decide) (if_neg (by decide)) (fun _ => ?_) (fun q => nomatch q)
    refine g_goto (tgt := 1380) h9 tL_386 (by decide) ?_
    refine g_loc h9 [2, 3, 4, 5, 6] rfl ?_
    exact kk _ (rel_mono (rel_no hR) (by omega) (by omega))
theorem lc_6 (B0 : Bs p l s m meth c b L xs ρ cs G a) (hc1 : kc + 1 ≤ 601024) (hc2 : ks + 6 ≤ 7293034) (h1 : vp_in (I + 1) L) (hB : B < 90000) (hR : Rel B w) (kk : ∀ w2, Rel (B + 108) w2 → gG ρ cs G (Lx p l e s m below meth c b (kc + 1) (ks + 6)) 1380 (lo ρ b I) [] w2) : gG ρ cs G (Lx p l e s m below meth c b kc ks) 389 (lo ρ b I) [] w := by
  have h := B0.okx (e := e) (below := below) (kc := kc) (ks := ks) (by omega) (by omega)
  have h9 := B0.okx (e := e) (below := below) hc1 hc2
  refine g_aload_n h 3 tL_389 rfl ?_
  refine g_aload_n h 4 tL_390 rfl ?_
  refine g_iload h 0 tL_391 rfl ?_
  refine g_iconst (v := 1) h tL_393 (by decide) ?_
  refine g_iadd h tL_394 ?_
  refine g_sld B0 h1 tL_395 ?_
  refine g_aload_n h 1 tL_396 rfl ?_
  rcases rel_store hR (xs (I + 1).toNatClampNeg) with ⟨hk, hz⟩ | ⟨hk, r, hr⟩
  · refine g_lcatch B0 (As := [.ref (ρ 75), .int (xs (I + 1).toNatClampNeg), .ref (ρ 161)]) (st := []) (vtb_at 1317 (by decide +kernel) rfl) (vtb_at 1315 (by decide +kernel) rfl) (vtb_at 1316 (by decide +kernel) rfl) (vtb_at 138 (by decide +kernel) rfl) ⟨by decide, by decide, by decide +kernel⟩ rfl rfl (Nat.le_of_ble_eq_true rfl) hc1 hc2 tL_397 (cL_store B0.hin hk) ?_
    refine g_istore (n0 := 8) h9 rfl tL_400 (by decide) rfl ?_
    refine g_aload_n h9 3 tL_402 rfl ?_
    refine g_aload_n h9 5 tL_403 rfl ?_
    refine g_iload h9 1 tL_404 rfl ?_
    refine g_iconst (v := 1) h9 tL_406 (by decide) ?_
    refine g_iadd h9 tL_407 ?_
    refine g_sld B0 h1 tL_408 ?_
    refine g_lcall h9 119 (As := [.int (xs (I + 1).toNatClampNeg)]) (st := []) my_X12_store mi_X12_store mL_59 rfl (by decide) rfl rfl rfl (Nat.le_of_ble_eq_true rfl) (by decide) tL_409 (S_X12_store B0.hin (hz ((w.1 2 (xs (I + 1).toNatClampNeg).toNatClampNeg).toInt64))) ?_
    refine g_istore (n0 := 8) h9 rfl tL_412 (by decide) rfl ?_
    refine g_aload_n h9 4 tL_414 rfl ?_
    refine g_lcall (r := 0) h9 119 (As := []) (st := []) my_X12_thrown mi_X12_thrown mL_54 rfl (by decide) rfl rfl rfl (Nat.le_of_ble_eq_true rfl) (by decide) tL_415 (S_X12_thrown (rr := (0, _)) B0.hin rfl) ?_
    refine g_iload h9 1 tL_418 rfl ?_
    refine g_icmp_eq (B := some ()) (E := none) (rr := ()) (tgt := 425) h9 tL_420 (by decide) (if_pos rfl) (fun _ => ?_) (fun q => nomatch q)
    refine g_iload h9 1 tL_425 rfl ?_
    refine g_if_ne (B := none) (E := some ()) (rr := ()) (tgt := 442) h9 tL_427 (by decide) (if_pos rfl) (fun q => nomatch q) (fun _ => ?_)
    refine g_aload_n h9 3 tL_430 rfl ?_
    refine g_iconst (v := 0) h9 tL_431 (by decide) ?_
    refine g_lald (B := some ()) (rr := ()) h9 161 (n0 := 1) rfl (by decide) tL_432 (if_pos (by decide)) (fun _ => ?_)
    refine g_iload h9 0 tL_433 rfl ?_
    refine g_i2l h9 tL_435 ?_
    refine g_lcmp h9 tL_436 ?_
    refine g_if_eq (B := some ()) (E := none) (rr := ()) (tgt := 442) h9 tL_437 (by decide) (if_pos (cmp_self _)) (fun _ => ?_) (fun q => nomatch q)
    refine g_goto (tgt := 1380) h9 tL_442 (by decide) ?_
    refine g_loc h9 [2, 3, 4, 5, 6] rfl ?_
    exact kk _ (rel_mono (rel_ok (rel_J hR)) (by omega) (by omega))
  · refine g_lcatch B0 (As := [.ref (ρ 75), .int (xs (I + 1).toNatClampNeg), .ref (ρ 161)]) (st := []) (vtb_at 1317 (by decide +kernel) rfl) (vtb_at 1315 (by decide +kernel) rfl) (vtb_at 1316 (by decide +kernel) rfl) (vtb_at 138 (by decide +kernel) rfl) ⟨by decide, by decide, by decide +kernel⟩ rfl rfl (Nat.le_of_ble_eq_true rfl) hc1 hc2 tL_397 (xL_store B0.hin B0.hfl hk) ?_
    refine g_istore (n0 := 8) h9 rfl tL_400 (by decide) rfl ?_
    refine g_aload_n h9 3 tL_402 rfl ?_
    refine g_aload_n h9 5 tL_403 rfl ?_
    refine g_iload h9 1 tL_404 rfl ?_
    refine g_iconst (v := 1) h9 tL_406 (by decide) ?_
    refine g_iadd h9 tL_407 ?_
    refine g_sld B0 h1 tL_408 ?_
    refine g_lcall h9 119 (As := [.int (xs (I + 1).toNatClampNeg)]) (st := []) my_X12_store mi_X12_store mL_59 rfl (by decide) rfl rfl rfl (Nat.le_of_ble_eq_true rfl) (by decide) tL_409 (S_X12_store B0.hin hr) ?_
    refine g_istore (n0 := 8) h9 rfl tL_412 (by decide) rfl ?_
    refine g_aload_n h9 4 tL_414 rfl ?_
    refine g_lcall (r := 1) h9 119 (As := []) (st := []) my_X12_thrown mi_X12_thrown mL_54 rfl (by decide) rfl rfl rfl (Nat.le_of_ble_eq_true rfl) (by decide) tL_415 (S_X12_thrown (rr := (1, _)) B0.hin rfl) ?_
    refine g_iload h9 1 tL_418 rfl ?_
    refine g_icmp_eq (B := some ()) (E := none) (rr := ()) (tgt := 425) h9 tL_420 (by decide) (if_pos rfl) (fun _ => ?_) (fun q => nomatch q)
    refine g_iload h9 1 tL_425 rfl ?_
    refine g_if_ne (B := some ()) (E := none) (rr := ()) (tgt := 442) h9 tL_427 (by decide) (if_neg (by decide)) (fun _ => ?_) (fun q => nomatch q)
    refine g_goto (tgt := 1380) h9 tL_442 (by decide) ?_
    refine g_loc h9 [2, 3, 4, 5, 6] rfl ?_
    exact kk _ (rel_mono (rel_no hR) (by omega) (by omega))
theorem lc_47 (B0 : Bs p l s m meth c b L xs ρ cs G a) (hc1 : kc + 1 ≤ 601024) (hc2 : ks + 6 ≤ 7293034) (h1 : vp_in (I + 1) L) (hB : B < 90000) (hR : Rel B w) (kk : ∀ w2, Rel (B + 108) w2 → gG ρ cs G (Lx p l e s m below meth c b (kc + 1) (ks + 6)) 1380 (lo ρ b I) [] w2) : gG ρ cs G (Lx p l e s m below meth c b kc ks) 1325 (lo ρ b I) [] w := by
  have h := B0.okx (e := e) (below := below) (kc := kc) (ks := ks) (by omega) (by omega)
  have h9 := B0.okx (e := e) (below := below) hc1 hc2
  refine g_aload_n h 3 tL_1325 rfl ?_
  refine g_aload_n h 4 tL_1326 rfl ?_
  refine g_iload h 0 tL_1327 rfl ?_
  refine g_iconst (v := 1) h tL_1329 (by decide) ?_
  refine g_iadd h tL_1330 ?_
  refine g_sld B0 h1 tL_1331 ?_
  refine g_aload_n h 1 tL_1332 rfl ?_
  rcases rel_row hR (xs (I + 1).toNatClampNeg) with ⟨hk, hz⟩ | ⟨hk, r, hr⟩
  · refine g_lcatch B0 (As := [.ref (ρ 75), .int (xs (I + 1).toNatClampNeg), .ref (ρ 161)]) (st := []) (vtb_at 1325 (by decide +kernel) rfl) (vtb_at 1323 (by decide +kernel) rfl) (vtb_at 1324 (by decide +kernel) rfl) (vtb_at 138 (by decide +kernel) rfl) ⟨by decide, by decide, by decide +kernel⟩ rfl rfl (Nat.le_of_ble_eq_true rfl) hc1 hc2 tL_1333 (cL_row B0.hin hk) ?_
    refine g_istore (n0 := 8) h9 rfl tL_1336 (by decide) rfl ?_
    refine g_aload_n h9 3 tL_1338 rfl ?_
    refine g_aload_n h9 5 tL_1339 rfl ?_
    refine g_iload h9 1 tL_1340 rfl ?_
    refine g_iconst (v := 1) h9 tL_1342 (by decide) ?_
    refine g_iadd h9 tL_1343 ?_
    refine g_sld B0 h1 tL_1344 ?_
    refine g_lcallJ h9 119 (As := [.int (xs (I + 1).toNatClampNeg)]) (st := []) my_X12_row mi_X12_row mL_224 rfl (by decide) rfl rfl rfl (Nat.le_of_ble_eq_true rfl) (by decide) tL_1345 (S_X12_row B0.hin (hz (w.2.1 83 (xs (I + 1).toNatClampNeg).toNatClampNeg))) ?_
    refine g_lstore (n0 := 8) h9 rfl tL_1348 (by decide) rfl ?_
    refine g_aload_n h9 4 tL_1350 rfl ?_
    refine g_lcall (r := 0) h9 119 (As := []) (st := []) my_X12_thrown mi_X12_thrown mL_54 rfl (by decide) rfl rfl rfl (Nat.le_of_ble_eq_true rfl) (by decide) tL_1351 (S_X12_thrown (rr := (0, _)) B0.hin rfl) ?_
    refine g_iload h9 1 tL_1354 rfl ?_
    refine g_icmp_eq (B := some ()) (E := none) (rr := ()) (tgt := 1361) h9 tL_1356 (by decide) (if_pos rfl) (fun _ => ?_) (fun q => nomatch q)
    refine g_iload h9 1 tL_1361 rfl ?_
    refine g_if_ne (B := none) (E := some ()) (rr := ()) (tgt := 1377) h9 tL_1363 (by decide) (if_pos rfl) (fun q => nomatch q) (fun _ => ?_)
    refine g_aload_n h9 3 tL_1366 rfl ?_
    refine g_iconst (v := 0) h9 tL_1367 (by decide) ?_
    refine g_lald (B := some ()) (rr := ()) h9 161 (n0 := 1) rfl (by decide) tL_1368 (if_pos (by decide)) (fun _ => ?_)
    refine g_lload h9 0 tL_1369 rfl ?_
    refine g_lcmp h9 tL_1371 ?_
    refine g_if_eq (B := some ()) (E := none) (rr := ()) (tgt := 1377) h9 tL_1372 (by decide) (if_pos (cmp_self _)) (fun _ => ?_) (fun q => nomatch q)
    refine g_goto (tgt := 1380) h9 tL_1377 (by decide) ?_
    refine g_loc h9 [2, 3, 4, 5, 6] rfl ?_
    exact kk _ (rel_mono (rel_ok (rel_J hR)) (by omega) (by omega))
  · refine g_lcatch B0 (As := [.ref (ρ 75), .int (xs (I + 1).toNatClampNeg), .ref (ρ 161)]) (st := []) (vtb_at 1325 (by decide +kernel) rfl) (vtb_at 1323 (by decide +kernel) rfl) (vtb_at 1324 (by decide +kernel) rfl) (vtb_at 138 (by decide +kernel) rfl) ⟨by decide, by decide, by decide +kernel⟩ rfl rfl (Nat.le_of_ble_eq_true rfl) hc1 hc2 tL_1333 (xL_row B0.hin B0.hfl hk) ?_
    refine g_istore (n0 := 8) h9 rfl tL_1336 (by decide) rfl ?_
    refine g_aload_n h9 3 tL_1338 rfl ?_
    refine g_aload_n h9 5 tL_1339 rfl ?_
    refine g_iload h9 1 tL_1340 rfl ?_
    refine g_iconst (v := 1) h9 tL_1342 (by decide) ?_
    refine g_iadd h9 tL_1343 ?_
    refine g_sld B0 h1 tL_1344 ?_
    refine g_lcallJ h9 119 (As := [.int (xs (I + 1).toNatClampNeg)]) (st := []) my_X12_row mi_X12_row mL_224 rfl (by decide) rfl rfl rfl (Nat.le_of_ble_eq_true rfl) (by decide) tL_1345 (S_X12_row B0.hin hr) ?_
    refine g_lstore (n0 := 8) h9 rfl tL_1348 (by decide) rfl ?_
    refine g_aload_n h9 4 tL_1350 rfl ?_
    refine g_lcall (r := 1) h9 119 (As := []) (st := []) my_X12_thrown mi_X12_thrown mL_54 rfl (by decide) rfl rfl rfl (Nat.le_of_ble_eq_true rfl) (by decide) tL_1351 (S_X12_thrown (rr := (1, _)) B0.hin rfl) ?_
    refine g_iload h9 1 tL_1354 rfl ?_
    refine g_icmp_eq (B := some ()) (E := none) (rr := ()) (tgt := 1361) h9 tL_1356 (by decide) (if_pos rfl) (fun _ => ?_) (fun q => nomatch q)
    refine g_iload h9 1 tL_1361 rfl ?_
    refine g_if_ne (B := some ()) (E := none) (rr := ()) (tgt := 1377) h9 tL_1363 (by decide) (if_neg (by decide)) (fun _ => ?_) (fun q => nomatch q)
    refine g_goto (tgt := 1380) h9 tL_1377 (by decide) ?_
    refine g_loc h9 [2, 3, 4, 5, 6] rfl ?_
    exact kk _ (rel_mono (rel_no hR) (by omega) (by omega))
end LT
