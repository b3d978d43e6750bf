/-! the law's loop -/
section LL
variable {p : Program} {l : Launch} {e : Env} {s : State} {m : MethodId} {below : List Frame} {meth : Method} {c : Code} {b L : Nat} {xs : Nat → Int32} {ρ : Nat → Nat} {cs : Nat → ClassId} {G : va_G} {a : Nat → Nat} {kc ks : Nat} {w : Wd} {B : Nat} {I : Int32}
theorem len_sub {L : Nat} (hL : L ≤ 2560) : (Int32.ofNat L - 5).toInt = (L : Int) - 5 := by
  have e1 : Int32.ofNat L = nI L := rfl
  have e5 : (5 : Int32).toInt = 5 := by decide
  rw [Int32.toInt_sub, e1, nI_toInt (by omega), e5]
  exact Int.bmod_eq_of_le (by omega) (by omega)
theorem lt_end {L i : Nat} (h : L < i + 5) (hL : L ≤ 2560) (hi : i ≤ 2560) : Int32.ofNat L - 5 < nI i := by
  rw [Int32.lt_iff_toInt_lt, len_sub hL, nI_toInt (by omega)]
  omega
theorem lt_not {L i : Nat} (h : i + 5 ≤ L) (hL : L ≤ 2560) : ¬ Int32.ofNat L - 5 < nI i := by
  rw [Int32.lt_iff_toInt_lt, len_sub hL, nI_toInt (by omega)]
  omega
theorem add5 (j : Nat) : nI (5 * j) + Int32.ofInt 5 = nI (5 * (j + 1)) := by
  have e : Int32.ofInt 5 = nI 5 := by decide +kernel
  rw [e, nI_add, Nat.mul_succ]
theorem ix_at {i k L : Nat} (h : i + k < L) (hL : L ≤ 2560) : vp_in (nI i + nI k) L := by
  rw [nI_add]
  exact ib_in (ib_nI (by omega) (by omega))
theorem law_case (B0 : Bs p l s m meth c b L xs ρ cs G a) (hc1 : kc + 1 ≤ 601024) (hc2 : ks + 6 ≤ 7293034) (h1 : vp_in (I + 1) L) (h2 : vp_in (I + 2) L) (h3 : vp_in (I + 3) L) (h4 : vp_in (I + 4) L) (hB : B < 90000) (hR : Rel B w) (x : Int32) (kk : ∀ kc2 ks2 w2, kc2 ≤ kc + 1 → ks2 ≤ ks + 6 → Rel (B + 108) w2 → gG ρ cs G (Lx p l e s m below meth c b kc2 ks2) 1380 (lo ρ b I) [] w2) : gG ρ cs G (Lx p l e s m below meth c b kc ks) 39 (lo ρ b I) [.int x] w := by
  have h := B0.okx (e := e) (below := below) (kc := kc) (ks := ks) (by omega) (by omega)
  by_cases hx : x.toInt < 0 ∨ 47 < x.toInt
  · refine g_tswO (tgt := 1380) h tL_39 hx (by decide) ?_
    exact kk kc ks w (by omega) (by omega) (rel_mono hR (by omega) (by omega))
  · obtain ⟨k, hk, hkx⟩ : ∃ k : Nat, k < 48 ∧ x.toInt = (k : Int) := ⟨x.toInt.toNat, by omega, by omega⟩
    match k, hk with
    | 0, _ => exact g_tswI (off := 205) (tgt := 244) h tL_39 (by rw [hkx]; decide) (by rw [hkx]; decide) (by rw [hkx]; rfl) (by decide) (lc_0 B0 (by omega) (by omega) h1 hB hR (fun w2 hr => kk kc ks w2 (by omega) (by omega) hr))
    | 1, _ => exact g_tswI (off := 230) (tgt := 269) h tL_39 (by rw [hkx]; decide) (by rw [hkx]; decide) (by rw [hkx]; rfl) (by decide) (lc_1 B0 (by omega) (by omega) h1 hB hR (fun w2 hr => kk kc ks w2 (by omega) (by omega) hr))
    | 2, _ => exact g_tswI (off := 255) (tgt := 294) h tL_39 (by rw [hkx]; decide) (by rw [hkx]; decide) (by rw [hkx]; rfl) (by decide) (lc_2 B0 (by omega) (by omega) hB hR (fun w2 hr => kk kc ks w2 (by omega) (by omega) hr))
    | 3, _ => exact g_tswI (off := 268) (tgt := 307) h tL_39 (by rw [hkx]; decide) (by rw [hkx]; decide) (by rw [hkx]; rfl) (by decide) (lc_3 B0 (by omega) (by omega) hB hR (fun w2 hr => kk kc ks w2 (by omega) (by omega) hr))
    | 4, _ => exact g_tswI (off := 281) (tgt := 320) h tL_39 (by rw [hkx]; decide) (by rw [hkx]; decide) (by rw [hkx]; rfl) (by decide) (lc_4 B0 (by omega) (by omega) hB hR (fun w2 hr => kk kc ks w2 (by omega) (by omega) hr))
    | 5, _ => exact g_tswI (off := 294) (tgt := 333) h tL_39 (by rw [hkx]; decide) (by rw [hkx]; decide) (by rw [hkx]; rfl) (by decide) (lc_5 B0 hc1 hc2 h1 hB hR (fun w2 hr => kk (kc + 1) (ks + 6) w2 (Nat.le_refl _) (Nat.le_refl _) hr))
    | 6, _ => exact g_tswI (off := 350) (tgt := 389) h tL_39 (by rw [hkx]; decide) (by rw [hkx]; decide) (by rw [hkx]; rfl) (by decide) (lc_6 B0 hc1 hc2 h1 hB hR (fun w2 hr => kk (kc + 1) (ks + 6) w2 (Nat.le_refl _) (Nat.le_refl _) hr))
    | 7, _ => exact g_tswI (off := 406) (tgt := 445) h tL_39 (by rw [hkx]; decide) (by rw [hkx]; decide) (by rw [hkx]; rfl) (by decide) (lc_7 B0 (by omega) (by omega) h1 h2 h3 h4 hB hR (fun w2 hr => kk kc ks w2 (by omega) (by omega) hr))
    | 8, _ => exact g_tswI (off := 467) (tgt := 506) h tL_39 (by rw [hkx]; decide) (by rw [hkx]; decide) (by rw [hkx]; rfl) (by decide) (lc_8 B0 (by omega) (by omega) h1 hB hR (fun w2 hr => kk kc ks w2 (by omega) (by omega) hr))
    | 9, _ => exact g_tswI (off := 492) (tgt := 531) h tL_39 (by rw [hkx]; decide) (by rw [hkx]; decide) (by rw [hkx]; rfl) (by decide) (lc_9 B0 (by omega) (by omega) h1 hB hR (fun w2 hr => kk kc ks w2 (by omega) (by omega) hr))
    | 10, _ => exact g_tswI (off := 517) (tgt := 556) h tL_39 (by rw [hkx]; decide) (by rw [hkx]; decide) (by rw [hkx]; rfl) (by decide) (lc_10 B0 (by omega) (by omega) hB hR (fun w2 hr => kk kc ks w2 (by omega) (by omega) hr))
    | 11, _ => exact g_tswI (off := 530) (tgt := 569) h tL_39 (by rw [hkx]; decide) (by rw [hkx]; decide) (by rw [hkx]; rfl) (by decide) (lc_11 B0 (by omega) (by omega) h1 h2 hB hR (fun w2 hr => kk kc ks w2 (by omega) (by omega) hr))
    | 12, _ => exact g_tswI (off := 567) (tgt := 606) h tL_39 (by rw [hkx]; decide) (by rw [hkx]; decide) (by rw [hkx]; rfl) (by decide) (lc_12 B0 (by omega) (by omega) hB hR (fun w2 hr => kk kc ks w2 (by omega) (by omega) hr))
    | 13, _ => exact g_tswI (off := 580) (tgt := 619) h tL_39 (by rw [hkx]; decide) (by rw [hkx]; decide) (by rw [hkx]; rfl) (by decide) (lc_13 B0 (by omega) (by omega) hB hR (fun w2 hr => kk kc ks w2 (by omega) (by omega) hr))
    | 14, _ => exact g_tswI (off := 593) (tgt := 632) h tL_39 (by rw [hkx]; decide) (by rw [hkx]; decide) (by rw [hkx]; rfl) (by decide) (lc_14 B0 (by omega) (by omega) h1 hB hR (fun w2 hr => kk kc ks w2 (by omega) (by omega) hr))
    | 15, _ => exact g_tswI (off := 618) (tgt := 657) h tL_39 (by rw [hkx]; decide) (by rw [hkx]; decide) (by rw [hkx]; rfl) (by decide) (lc_15 B0 (by omega) (by omega) h1 hB hR (fun w2 hr => kk kc ks w2 (by omega) (by omega) hr))
    | 16, _ => exact g_tswI (off := 643) (tgt := 682) h tL_39 (by rw [hkx]; decide) (by rw [hkx]; decide) (by rw [hkx]; rfl) (by decide) (lc_16 B0 (by omega) (by omega) hB hR (fun w2 hr => kk kc ks w2 (by omega) (by omega) hr))
    | 17, _ => exact g_tswI (off := 656) (tgt := 695) h tL_39 (by rw [hkx]; decide) (by rw [hkx]; decide) (by rw [hkx]; rfl) (by decide) (lc_17 B0 (by omega) (by omega) hB hR (fun w2 hr => kk kc ks w2 (by omega) (by omega) hr))
    | 18, _ => exact g_tswI (off := 669) (tgt := 708) h tL_39 (by rw [hkx]; decide) (by rw [hkx]; decide) (by rw [hkx]; rfl) (by decide) (lc_18 B0 (by omega) (by omega) hB hR (fun w2 hr => kk kc ks w2 (by omega) (by omega) hr))
    | 19, _ => exact g_tswI (off := 682) (tgt := 721) h tL_39 (by rw [hkx]; decide) (by rw [hkx]; decide) (by rw [hkx]; rfl) (by decide) (lc_19 B0 (by omega) (by omega) hB hR (fun w2 hr => kk kc ks w2 (by omega) (by omega) hr))
    | 20, _ => exact g_tswI (off := 695) (tgt := 734) h tL_39 (by rw [hkx]; decide) (by rw [hkx]; decide) (by rw [hkx]; rfl) (by decide) (lc_20 B0 (by omega) (by omega) hB hR (fun w2 hr => kk kc ks w2 (by omega) (by omega) hr))
    | 21, _ => exact g_tswI (off := 708) (tgt := 747) h tL_39 (by rw [hkx]; decide) (by rw [hkx]; decide) (by rw [hkx]; rfl) (by decide) (lc_21 B0 (by omega) (by omega) h1 hB hR (fun w2 hr => kk kc ks w2 (by omega) (by omega) hr))
    | 22, _ => exact g_tswI (off := 733) (tgt := 772) h tL_39 (by rw [hkx]; decide) (by rw [hkx]; decide) (by rw [hkx]; rfl) (by decide) (lc_22 B0 (by omega) (by omega) hB hR (fun w2 hr => kk kc ks w2 (by omega) (by omega) hr))
    | 23, _ => exact g_tswI (off := 746) (tgt := 785) h tL_39 (by rw [hkx]; decide) (by rw [hkx]; decide) (by rw [hkx]; rfl) (by decide) (lc_23 B0 (by omega) (by omega) h1 hB hR (fun w2 hr => kk kc ks w2 (by omega) (by omega) hr))
    | 24, _ => exact g_tswI (off := 771) (tgt := 810) h tL_39 (by rw [hkx]; decide) (by rw [hkx]; decide) (by rw [hkx]; rfl) (by decide) (lc_24 B0 (by omega) (by omega) h1 h2 hB hR (fun w2 hr => kk kc ks w2 (by omega) (by omega) hr))
    | 25, _ => exact g_tswI (off := 808) (tgt := 847) h tL_39 (by rw [hkx]; decide) (by rw [hkx]; decide) (by rw [hkx]; rfl) (by decide) (lc_25 B0 (by omega) (by omega) h1 hB hR (fun w2 hr => kk kc ks w2 (by omega) (by omega) hr))
    | 26, _ => exact g_tswI (off := 833) (tgt := 872) h tL_39 (by rw [hkx]; decide) (by rw [hkx]; decide) (by rw [hkx]; rfl) (by decide) (lc_26 B0 (by omega) (by omega) h1 h2 hB hR (fun w2 hr => kk kc ks w2 (by omega) (by omega) hr))
    | 27, _ => exact g_tswI (off := 870) (tgt := 909) h tL_39 (by rw [hkx]; decide) (by rw [hkx]; decide) (by rw [hkx]; rfl) (by decide) (lc_27 B0 (by omega) (by omega) h1 hB hR (fun w2 hr => kk kc ks w2 (by omega) (by omega) hr))
    | 28, _ => exact g_tswI (off := 895) (tgt := 934) h tL_39 (by rw [hkx]; decide) (by rw [hkx]; decide) (by rw [hkx]; rfl) (by decide) (lc_28 B0 (by omega) (by omega) hB hR (fun w2 hr => kk kc ks w2 (by omega) (by omega) hr))
    | 29, _ => exact g_tswI (off := 908) (tgt := 947) h tL_39 (by rw [hkx]; decide) (by rw [hkx]; decide) (by rw [hkx]; rfl) (by decide) (lc_29 B0 (by omega) (by omega) hB hR (fun w2 hr => kk kc ks w2 (by omega) (by omega) hr))
    | 30, _ => exact g_tswI (off := 921) (tgt := 960) h tL_39 (by rw [hkx]; decide) (by rw [hkx]; decide) (by rw [hkx]; rfl) (by decide) (lc_30 B0 (by omega) (by omega) h1 hB hR (fun w2 hr => kk kc ks w2 (by omega) (by omega) hr))
    | 31, _ => exact g_tswI (off := 946) (tgt := 985) h tL_39 (by rw [hkx]; decide) (by rw [hkx]; decide) (by rw [hkx]; rfl) (by decide) (lc_31 B0 (by omega) (by omega) h1 hB hR (fun w2 hr => kk kc ks w2 (by omega) (by omega) hr))
    | 32, _ => exact g_tswI (off := 971) (tgt := 1010) h tL_39 (by rw [hkx]; decide) (by rw [hkx]; decide) (by rw [hkx]; rfl) (by decide) (lc_32 B0 (by omega) (by omega) hB hR (fun w2 hr => kk kc ks w2 (by omega) (by omega) hr))
    | 33, _ => exact g_tswI (off := 984) (tgt := 1023) h tL_39 (by rw [hkx]; decide) (by rw [hkx]; decide) (by rw [hkx]; rfl) (by decide) (lc_33 B0 (by omega) (by omega) h1 h2 hB hR (fun w2 hr => kk kc ks w2 (by omega) (by omega) hr))
    | 34, _ => exact g_tswI (off := 1021) (tgt := 1060) h tL_39 (by rw [hkx]; decide) (by rw [hkx]; decide) (by rw [hkx]; rfl) (by decide) (lc_34 B0 (by omega) (by omega) hB hR (fun w2 hr => kk kc ks w2 (by omega) (by omega) hr))
    | 35, _ => exact g_tswI (off := 1034) (tgt := 1073) h tL_39 (by rw [hkx]; decide) (by rw [hkx]; decide) (by rw [hkx]; rfl) (by decide) (lc_35 B0 (by omega) (by omega) hB hR (fun w2 hr => kk kc ks w2 (by omega) (by omega) hr))
    | 36, _ => exact g_tswI (off := 1047) (tgt := 1086) h tL_39 (by rw [hkx]; decide) (by rw [hkx]; decide) (by rw [hkx]; rfl) (by decide) (lc_36 B0 (by omega) (by omega) hB hR (fun w2 hr => kk kc ks w2 (by omega) (by omega) hr))
    | 37, _ => exact g_tswI (off := 1060) (tgt := 1099) h tL_39 (by rw [hkx]; decide) (by rw [hkx]; decide) (by rw [hkx]; rfl) (by decide) (lc_37 B0 (by omega) (by omega) h1 h2 hB hR (fun w2 hr => kk kc ks w2 (by omega) (by omega) hr))
    | 38, _ => exact g_tswI (off := 1097) (tgt := 1136) h tL_39 (by rw [hkx]; decide) (by rw [hkx]; decide) (by rw [hkx]; rfl) (by decide) (lc_38 B0 (by omega) (by omega) hB hR (fun w2 hr => kk kc ks w2 (by omega) (by omega) hr))
    | 39, _ => exact g_tswI (off := 1110) (tgt := 1149) h tL_39 (by rw [hkx]; decide) (by rw [hkx]; decide) (by rw [hkx]; rfl) (by decide) (lc_39 B0 (by omega) (by omega) hB hR (fun w2 hr => kk kc ks w2 (by omega) (by omega) hr))
    | 40, _ => exact g_tswI (off := 1123) (tgt := 1162) h tL_39 (by rw [hkx]; decide) (by rw [hkx]; decide) (by rw [hkx]; rfl) (by decide) (lc_40 B0 (by omega) (by omega) hB hR (fun w2 hr => kk kc ks w2 (by omega) (by omega) hr))
    | 41, _ => exact g_tswI (off := 1136) (tgt := 1175) h tL_39 (by rw [hkx]; decide) (by rw [hkx]; decide) (by rw [hkx]; rfl) (by decide) (lc_41 B0 (by omega) (by omega) h1 hB hR (fun w2 hr => kk kc ks w2 (by omega) (by omega) hr))
    | 42, _ => exact g_tswI (off := 1161) (tgt := 1200) h tL_39 (by rw [hkx]; decide) (by rw [hkx]; decide) (by rw [hkx]; rfl) (by decide) (lc_42 B0 (by omega) (by omega) hB hR (fun w2 hr => kk kc ks w2 (by omega) (by omega) hr))
    | 43, _ => exact g_tswI (off := 1174) (tgt := 1213) h tL_39 (by rw [hkx]; decide) (by rw [hkx]; decide) (by rw [hkx]; rfl) (by decide) (lc_43 B0 (by omega) (by omega) h1 h2 hB hR (fun w2 hr => kk kc ks w2 (by omega) (by omega) hr))
    | 44, _ => exact g_tswI (off := 1211) (tgt := 1250) h tL_39 (by rw [hkx]; decide) (by rw [hkx]; decide) (by rw [hkx]; rfl) (by decide) (lc_44 B0 (by omega) (by omega) h1 hB hR (fun w2 hr => kk kc ks w2 (by omega) (by omega) hr))
    | 45, _ => exact g_tswI (off := 1236) (tgt := 1275) h tL_39 (by rw [hkx]; decide) (by rw [hkx]; decide) (by rw [hkx]; rfl) (by decide) (lc_45 B0 (by omega) (by omega) h1 hB hR (fun w2 hr => kk kc ks w2 (by omega) (by omega) hr))
    | 46, _ => exact g_tswI (off := 1261) (tgt := 1300) h tL_39 (by rw [hkx]; decide) (by rw [hkx]; decide) (by rw [hkx]; rfl) (by decide) (lc_46 B0 (by omega) (by omega) h1 hB hR (fun w2 hr => kk kc ks w2 (by omega) (by omega) hr))
    | 47, _ => exact g_tswI (off := 1286) (tgt := 1325) h tL_39 (by rw [hkx]; decide) (by rw [hkx]; decide) (by rw [hkx]; rfl) (by decide) (lc_47 B0 hc1 hc2 h1 hB hR (fun w2 hr => kk (kc + 1) (ks + 6) w2 (Nat.le_refl _) (Nat.le_refl _) hr))
    | k + 48, hk => exact absurd hk (by omega)
theorem law_loop (B0 : Bs p l s m meth c b L xs ρ cs G a) (hL : L ≤ 2560) : ∀ (n j kc ks : Nat) (w : Wd), L ≤ 5 * (j + n) → j ≤ 512 → kc ≤ 1000 + j → ks ≤ 20000 + 6 * j → Rel (18 + 108 * j) w → gG ρ cs G (Lx p l e s m below meth c b kc ks) 23 (lo ρ b (nI (5 * j))) [] w := by
  intro n
  induction n with
  | zero =>
    intro j kc ks w h1 h2 h3 h4 hR
    have h := B0.okx (e := e) (below := below) (kc := kc) (ks := ks) (by omega) (by omega)
    refine g_iload h 0 tL_23 rfl ?_
    refine g_aload_n h 4 tL_25 rfl ?_
    refine g_slen B0 tL_26 ?_
    refine g_iconst (v := 5) h tL_27 (by decide) ?_
    refine g_isub h tL_28 ?_
    refine g_icmp_gt (B := some ()) (E := none) (rr := ()) (tgt := 1386) h tL_29 (by decide) (if_pos (lt_end (by omega) (by omega) (by omega))) (fun _ => ?_) (fun q => nomatch q)
    refine g_iconst (v := 1) h tL_1386 (by decide) ?_
    exact g_lend B0 (by omega) (by omega) tL_1387
  | succ n ih =>
    intro j kc ks w h1 h2 h3 h4 hR
    have h := B0.okx (e := e) (below := below) (kc := kc) (ks := ks) (by omega) (by omega)
    refine g_iload h 0 tL_23 rfl ?_
    refine g_aload_n h 4 tL_25 rfl ?_
    refine g_slen B0 tL_26 ?_
    refine g_iconst (v := 5) h tL_27 (by decide) ?_
    refine g_isub h tL_28 ?_
    by_cases hq : L < 5 * j + 5
    · refine g_icmp_gt (B := some ()) (E := none) (rr := ()) (tgt := 1386) h tL_29 (by decide) (if_pos (lt_end hq (by omega) (by omega))) (fun _ => ?_) (fun q => nomatch q)
      refine g_iconst (v := 1) h tL_1386 (by decide) ?_
      exact g_lend B0 (by omega) (by omega) tL_1387
    · refine g_icmp_gt (B := none) (E := some ()) (rr := ()) (tgt := 1386) h tL_29 (by decide) (if_neg (lt_not (by omega) (by omega))) (fun q => nomatch q) (fun _ => ?_)
      refine g_aload_n h 4 tL_32 rfl ?_
      refine g_iload h 0 tL_33 rfl ?_
      refine g_sld B0 (ib_in (ib_nI (show 5 * j < L by omega) (by omega))) tL_35 ?_
      refine g_bipush (v := 63) h tL_36 (by decide) ?_
      refine g_iand h tL_38 ?_
      refine law_case B0 (by omega) (by omega) (ix_at (i := 5 * j) (k := 1) (by omega) hL) (ix_at (i := 5 * j) (k := 2) (by omega) hL) (ix_at (i := 5 * j) (k := 3) (by omega) hL) (ix_at (i := 5 * j) (k := 4) (by omega) hL) (by omega) hR _ (fun kc2 ks2 w2 k1 k2 hr => ?_)
      have h9 := B0.okx (e := e) (below := below) (kc := kc2) (ks := ks2) (by omega) (by omega)
      refine g_iinc (n0 := 8) (k := 0) (v := nI (5 * (j + 1))) h9 rfl tL_1380 rfl (add5 j) (by decide) rfl ?_
      refine g_goto (tgt := 23) h9 tL_1383 (by decide) ?_
      exact ih (j + 1) kc2 ks2 w2 (by omega) (by omega) (by omega) (by omega) (by rw [show 18 + 108 * (j + 1) = 18 + 108 * j + 108 by omega]; exact hr)
end LL
