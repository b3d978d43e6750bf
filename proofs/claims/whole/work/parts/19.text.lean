def y_J1_canEncode_9a6ad : MethodName := ⟨"java/lang/StringLatin1", "canEncode", "(I)Z"⟩
theorem t_J1_canEncode_9a6ad_0 : decode prog_26_method_4_code 0 = .ok (.iload_n 0, 1) := by decide +kernel
theorem t_J1_canEncode_9a6ad_1 : decode prog_26_method_4_code 1 = .ok (.ifCond .lt 14, 3) := by decide +kernel
theorem t_J1_canEncode_9a6ad_4 : decode prog_26_method_4_code 4 = .ok (.iload_n 0, 1) := by decide +kernel
theorem t_J1_canEncode_9a6ad_5 : decode prog_26_method_4_code 5 = .ok (.sipush 255, 3) := by decide +kernel
theorem t_J1_canEncode_9a6ad_8 : decode prog_26_method_4_code 8 = .ok (.if_icmp .gt 7, 3) := by decide +kernel
theorem t_J1_canEncode_9a6ad_11 : decode prog_26_method_4_code 11 = .ok (.iconst 1, 1) := by decide +kernel
theorem t_J1_canEncode_9a6ad_12 : decode prog_26_method_4_code 12 = .ok (.goto 4, 3) := by decide +kernel
theorem t_J1_canEncode_9a6ad_15 : decode prog_26_method_4_code 15 = .ok (.iconst 0, 1) := by decide +kernel
theorem t_J1_canEncode_9a6ad_16 : decode prog_26_method_4_code 16 = .ok (.ireturn, 1) := by decide +kernel
def y_J1_indexOfChar_4cfef : MethodName := ⟨"java/lang/StringLatin1", "indexOfChar", "([BIII)I"⟩
theorem t_J1_indexOfChar_4cfef_0 : decode prog_26_method_23_code 0 = .ok (.iload_n 1, 1) := by decide +kernel
theorem t_J1_indexOfChar_4cfef_1 : decode prog_26_method_23_code 1 = .ok (.i2b, 1) := by decide +kernel
theorem t_J1_indexOfChar_4cfef_2 : decode prog_26_method_23_code 2 = .ok (.istore 4, 2) := by decide +kernel
theorem t_J1_indexOfChar_4cfef_4 : decode prog_26_method_23_code 4 = .ok (.iload_n 2, 1) := by decide +kernel
theorem t_J1_indexOfChar_4cfef_5 : decode prog_26_method_23_code 5 = .ok (.istore 5, 2) := by decide +kernel
theorem t_J1_indexOfChar_4cfef_7 : decode prog_26_method_23_code 7 = .ok (.iload 5, 2) := by decide +kernel
theorem t_J1_indexOfChar_4cfef_9 : decode prog_26_method_23_code 9 = .ok (.iload_n 3, 1) := by decide +kernel
theorem t_J1_indexOfChar_4cfef_10 : decode prog_26_method_23_code 10 = .ok (.if_icmp .ge 21, 3) := by decide +kernel
theorem t_J1_indexOfChar_4cfef_13 : decode prog_26_method_23_code 13 = .ok (.aload_n 0, 1) := by decide +kernel
theorem t_J1_indexOfChar_4cfef_14 : decode prog_26_method_23_code 14 = .ok (.iload 5, 2) := by decide +kernel
theorem t_J1_indexOfChar_4cfef_16 : decode prog_26_method_23_code 16 = .ok (.baload, 1) := by decide +kernel
theorem t_J1_indexOfChar_4cfef_17 : decode prog_26_method_23_code 17 = .ok (.iload 4, 2) := by decide +kernel
theorem t_J1_indexOfChar_4cfef_19 : decode prog_26_method_23_code 19 = .ok (.if_icmp .ne 6, 3) := by decide +kernel
theorem t_J1_indexOfChar_4cfef_22 : decode prog_26_method_23_code 22 = .ok (.iload 5, 2) := by decide +kernel
theorem t_J1_indexOfChar_4cfef_24 : decode prog_26_method_23_code 24 = .ok (.ireturn, 1) := by decide +kernel
theorem t_J1_indexOfChar_4cfef_25 : decode prog_26_method_23_code 25 = .ok (.iinc 5 1, 3) := by decide +kernel
theorem t_J1_indexOfChar_4cfef_28 : decode prog_26_method_23_code 28 = .ok (.goto (-21), 3) := by decide +kernel
theorem t_J1_indexOfChar_4cfef_31 : decode prog_26_method_23_code 31 = .ok (.iconst (-1), 1) := by decide +kernel
theorem t_J1_indexOfChar_4cfef_32 : decode prog_26_method_23_code 32 = .ok (.ireturn, 1) := by decide +kernel
def y_J1_indexOf_4cfef : MethodName := ⟨"java/lang/StringLatin1", "indexOf", "([BIII)I"⟩
theorem t_J1_indexOf_4cfef_0 : decode prog_26_method_22_code 0 = .ok (.iload_n 1, 1) := by decide +kernel
theorem t_J1_indexOf_4cfef_1 : decode prog_26_method_22_code 1 = .ok (.invokestatic 88, 3) := by decide +kernel
theorem t_J1_indexOf_4cfef_4 : decode prog_26_method_22_code 4 = .ok (.ifCond .ne 5, 3) := by decide +kernel
theorem t_J1_indexOf_4cfef_7 : decode prog_26_method_22_code 7 = .ok (.iconst (-1), 1) := by decide +kernel
theorem t_J1_indexOf_4cfef_8 : decode prog_26_method_22_code 8 = .ok (.ireturn, 1) := by decide +kernel
theorem t_J1_indexOf_4cfef_9 : decode prog_26_method_22_code 9 = .ok (.iload_n 2, 1) := by decide +kernel
theorem t_J1_indexOf_4cfef_10 : decode prog_26_method_22_code 10 = .ok (.iconst 0, 1) := by decide +kernel
theorem t_J1_indexOf_4cfef_11 : decode prog_26_method_22_code 11 = .ok (.invokestatic 92, 3) := by decide +kernel
theorem t_J1_indexOf_4cfef_14 : decode prog_26_method_22_code 14 = .ok (.istore_n 2, 1) := by decide +kernel
theorem t_J1_indexOf_4cfef_15 : decode prog_26_method_22_code 15 = .ok (.iload_n 3, 1) := by decide +kernel
theorem t_J1_indexOf_4cfef_16 : decode prog_26_method_22_code 16 = .ok (.aload_n 0, 1) := by decide +kernel
theorem t_J1_indexOf_4cfef_17 : decode prog_26_method_22_code 17 = .ok (.arraylength, 1) := by decide +kernel
theorem t_J1_indexOf_4cfef_18 : decode prog_26_method_22_code 18 = .ok (.invokestatic 38, 3) := by decide +kernel
theorem t_J1_indexOf_4cfef_21 : decode prog_26_method_22_code 21 = .ok (.istore_n 3, 1) := by decide +kernel
theorem t_J1_indexOf_4cfef_22 : decode prog_26_method_22_code 22 = .ok (.iload_n 2, 1) := by decide +kernel
theorem t_J1_indexOf_4cfef_23 : decode prog_26_method_22_code 23 = .ok (.iload_n 3, 1) := by decide +kernel
theorem t_J1_indexOf_4cfef_24 : decode prog_26_method_22_code 24 = .ok (.if_icmp .lt 5, 3) := by decide +kernel
theorem t_J1_indexOf_4cfef_27 : decode prog_26_method_22_code 27 = .ok (.iconst (-1), 1) := by decide +kernel
theorem t_J1_indexOf_4cfef_28 : decode prog_26_method_22_code 28 = .ok (.ireturn, 1) := by decide +kernel
theorem t_J1_indexOf_4cfef_29 : decode prog_26_method_22_code 29 = .ok (.aload_n 0, 1) := by decide +kernel
theorem t_J1_indexOf_4cfef_30 : decode prog_26_method_22_code 30 = .ok (.iload_n 1, 1) := by decide +kernel
theorem t_J1_indexOf_4cfef_31 : decode prog_26_method_22_code 31 = .ok (.iload_n 2, 1) := by decide +kernel
theorem t_J1_indexOf_4cfef_32 : decode prog_26_method_22_code 32 = .ok (.iload_n 3, 1) := by decide +kernel
theorem t_J1_indexOf_4cfef_33 : decode prog_26_method_22_code 33 = .ok (.invokestatic 95, 3) := by decide +kernel
theorem t_J1_indexOf_4cfef_36 : decode prog_26_method_22_code 36 = .ok (.ireturn, 1) := by decide +kernel
def y_J0_coder_7d493 : MethodName := ⟨"java/lang/String", "coder", "()B"⟩
theorem t_J0_coder_7d493_0 : decode prog_25_method_152_code 0 = .ok (.getstatic 38, 3) := by decide +kernel
theorem t_J0_coder_7d493_3 : decode prog_25_method_152_code 3 = .ok (.ifCond .eq 10, 3) := by decide +kernel
theorem t_J0_coder_7d493_6 : decode prog_25_method_152_code 6 = .ok (.aload_n 0, 1) := by decide +kernel
theorem t_J0_coder_7d493_7 : decode prog_25_method_152_code 7 = .ok (.getfield 15, 3) := by decide +kernel
theorem t_J0_coder_7d493_10 : decode prog_25_method_152_code 10 = .ok (.goto 4, 3) := by decide +kernel
theorem t_J0_coder_7d493_13 : decode prog_25_method_152_code 13 = .ok (.iconst 1, 1) := by decide +kernel
theorem t_J0_coder_7d493_14 : decode prog_25_method_152_code 14 = .ok (.ireturn, 1) := by decide +kernel
def y_J0_length_8abf5 : MethodName := ⟨"java/lang/String", "length", "()I"⟩
theorem t_J0_length_8abf5_0 : decode prog_25_method_54_code 0 = .ok (.aload_n 0, 1) := by decide +kernel
theorem t_J0_length_8abf5_1 : decode prog_25_method_54_code 1 = .ok (.getfield 9, 3) := by decide +kernel
theorem t_J0_length_8abf5_4 : decode prog_25_method_54_code 4 = .ok (.arraylength, 1) := by decide +kernel
theorem t_J0_length_8abf5_5 : decode prog_25_method_54_code 5 = .ok (.aload_n 0, 1) := by decide +kernel
theorem t_J0_length_8abf5_6 : decode prog_25_method_54_code 6 = .ok (.invokevirtual 335, 3) := by decide +kernel
theorem t_J0_length_8abf5_9 : decode prog_25_method_54_code 9 = .ok (.ishr, 1) := by decide +kernel
theorem t_J0_length_8abf5_10 : decode prog_25_method_54_code 10 = .ok (.ireturn, 1) := by decide +kernel
def y_J0_isLatin1_aae02 : MethodName := ⟨"java/lang/String", "isLatin1", "()Z"⟩
theorem t_J0_isLatin1_aae02_0 : decode prog_25_method_154_code 0 = .ok (.getstatic 38, 3) := by decide +kernel
theorem t_J0_isLatin1_aae02_3 : decode prog_25_method_154_code 3 = .ok (.ifCond .eq 14, 3) := by decide +kernel
theorem t_J0_isLatin1_aae02_6 : decode prog_25_method_154_code 6 = .ok (.aload_n 0, 1) := by decide +kernel
theorem t_J0_isLatin1_aae02_7 : decode prog_25_method_154_code 7 = .ok (.getfield 15, 3) := by decide +kernel
theorem t_J0_isLatin1_aae02_10 : decode prog_25_method_154_code 10 = .ok (.ifCond .ne 7, 3) := by decide +kernel
theorem t_J0_isLatin1_aae02_13 : decode prog_25_method_154_code 13 = .ok (.iconst 1, 1) := by decide +kernel
theorem t_J0_isLatin1_aae02_14 : decode prog_25_method_154_code 14 = .ok (.goto 4, 3) := by decide +kernel
theorem t_J0_isLatin1_aae02_17 : decode prog_25_method_154_code 17 = .ok (.iconst 0, 1) := by decide +kernel
theorem t_J0_isLatin1_aae02_18 : decode prog_25_method_154_code 18 = .ok (.ireturn, 1) := by decide +kernel
def y_J0_indexOf_7cf53 : MethodName := ⟨"java/lang/String", "indexOf", "(II)I"⟩
theorem t_J0_indexOf_7cf53_0 : decode prog_25_method_80_code 0 = .ok (.aload_n 0, 1) := by decide +kernel
theorem t_J0_indexOf_7cf53_1 : decode prog_25_method_80_code 1 = .ok (.invokevirtual 492, 3) := by decide +kernel
theorem t_J0_indexOf_7cf53_4 : decode prog_25_method_80_code 4 = .ok (.ifCond .eq 19, 3) := by decide +kernel
theorem t_J0_indexOf_7cf53_7 : decode prog_25_method_80_code 7 = .ok (.aload_n 0, 1) := by decide +kernel
theorem t_J0_indexOf_7cf53_8 : decode prog_25_method_80_code 8 = .ok (.getfield 9, 3) := by decide +kernel
theorem t_J0_indexOf_7cf53_11 : decode prog_25_method_80_code 11 = .ok (.iload_n 1, 1) := by decide +kernel
theorem t_J0_indexOf_7cf53_12 : decode prog_25_method_80_code 12 = .ok (.iload_n 2, 1) := by decide +kernel
theorem t_J0_indexOf_7cf53_13 : decode prog_25_method_80_code 13 = .ok (.aload_n 0, 1) := by decide +kernel
theorem t_J0_indexOf_7cf53_14 : decode prog_25_method_80_code 14 = .ok (.invokevirtual 505, 3) := by decide +kernel
theorem t_J0_indexOf_7cf53_17 : decode prog_25_method_80_code 17 = .ok (.invokestatic 637, 3) := by decide +kernel
theorem t_J0_indexOf_7cf53_20 : decode prog_25_method_80_code 20 = .ok (.goto 16, 3) := by decide +kernel
theorem t_J0_indexOf_7cf53_23 : decode prog_25_method_80_code 23 = .ok (.aload_n 0, 1) := by decide +kernel
theorem t_J0_indexOf_7cf53_24 : decode prog_25_method_80_code 24 = .ok (.getfield 9, 3) := by decide +kernel
theorem t_J0_indexOf_7cf53_27 : decode prog_25_method_80_code 27 = .ok (.iload_n 1, 1) := by decide +kernel
theorem t_J0_indexOf_7cf53_28 : decode prog_25_method_80_code 28 = .ok (.iload_n 2, 1) := by decide +kernel
theorem t_J0_indexOf_7cf53_29 : decode prog_25_method_80_code 29 = .ok (.aload_n 0, 1) := by decide +kernel
theorem t_J0_indexOf_7cf53_30 : decode prog_25_method_80_code 30 = .ok (.invokevirtual 505, 3) := by decide +kernel
theorem t_J0_indexOf_7cf53_33 : decode prog_25_method_80_code 33 = .ok (.invokestatic 640, 3) := by decide +kernel
theorem t_J0_indexOf_7cf53_36 : decode prog_25_method_80_code 36 = .ok (.ireturn, 1) := by decide +kernel
def y_J0_indexOf_0f7a4 : MethodName := ⟨"java/lang/String", "indexOf", "(I)I"⟩
theorem t_J0_indexOf_0f7a4_0 : decode prog_25_method_79_code 0 = .ok (.aload_n 0, 1) := by decide +kernel
theorem t_J0_indexOf_0f7a4_1 : decode prog_25_method_79_code 1 = .ok (.iload_n 1, 1) := by decide +kernel
theorem t_J0_indexOf_0f7a4_2 : decode prog_25_method_79_code 2 = .ok (.iconst 0, 1) := by decide +kernel
theorem t_J0_indexOf_0f7a4_3 : decode prog_25_method_79_code 3 = .ok (.invokevirtual 633, 3) := by decide +kernel
theorem t_J0_indexOf_0f7a4_6 : decode prog_25_method_79_code 6 = .ok (.ireturn, 1) := by decide +kernel
theorem my_J0_indexOf_0f7a4 : MY y_J0_indexOf_0f7a4 prog_25_method_79_code 2 (some .int) 1 := ⟨vtb_at 598 (by decide +kernel) rfl, vtb_at 153 (by decide +kernel) rfl, ⟨by decide, by decide, by decide +kernel⟩, by decide⟩
theorem mi_J0_indexOf_0f7a4 : MI y_J0_indexOf_0f7a4 := ⟨vtb_at 596 (by decide +kernel) rfl, vtb_at 597 (by decide +kernel) rfl⟩
theorem my_J1_canEncode_9a6ad : MY y_J1_canEncode_9a6ad prog_26_method_4_code 1 (some .boolean) 1 := ⟨vtb_at 622 (by decide +kernel) rfl, vtb_at 154 (by decide +kernel) rfl, ⟨by decide, by decide, by decide +kernel⟩, by decide⟩
theorem ms_J1_canEncode_9a6ad : Cond.static y_J1_canEncode_9a6ad ∈ vtb := vtb_at 621 (by decide +kernel) rfl
theorem my_J1_indexOfChar_4cfef : MY y_J1_indexOfChar_4cfef prog_26_method_23_code 6 (some .int) 4 := ⟨vtb_at 629 (by decide +kernel) rfl, vtb_at 154 (by decide +kernel) rfl, ⟨by decide, by decide, by decide +kernel⟩, by decide⟩
theorem ms_J1_indexOfChar_4cfef : Cond.static y_J1_indexOfChar_4cfef ∈ vtb := vtb_at 628 (by decide +kernel) rfl
theorem my_J0_coder_7d493 : MY y_J0_coder_7d493 prog_25_method_152_code 1 (some .byte) 0 := ⟨vtb_at 616 (by decide +kernel) rfl, vtb_at 153 (by decide +kernel) rfl, ⟨by decide, by decide, by decide +kernel⟩, by decide⟩
theorem mi_J0_coder_7d493 : MI y_J0_coder_7d493 := ⟨vtb_at 614 (by decide +kernel) rfl, vtb_at 615 (by decide +kernel) rfl⟩
theorem my_J0_isLatin1_aae02 : MY y_J0_isLatin1_aae02 prog_25_method_154_code 1 (some .boolean) 0 := ⟨vtb_at 606 (by decide +kernel) rfl, vtb_at 153 (by decide +kernel) rfl, ⟨by decide, by decide, by decide +kernel⟩, by decide⟩
theorem mi_J0_isLatin1_aae02 : MI y_J0_isLatin1_aae02 := ⟨vtb_at 604 (by decide +kernel) rfl, vtb_at 605 (by decide +kernel) rfl⟩
theorem my_J0_length_8abf5 : MY y_J0_length_8abf5 prog_25_method_54_code 1 (some .int) 0 := ⟨vtb_at 612 (by decide +kernel) rfl, vtb_at 153 (by decide +kernel) rfl, ⟨by decide, by decide, by decide +kernel⟩, by decide⟩
theorem mi_J0_length_8abf5 : MI y_J0_length_8abf5 := ⟨vtb_at 610 (by decide +kernel) rfl, vtb_at 611 (by decide +kernel) rfl⟩
theorem my_J1_indexOf_4cfef : MY y_J1_indexOf_4cfef prog_26_method_22_code 4 (some .int) 4 := ⟨vtb_at 619 (by decide +kernel) rfl, vtb_at 154 (by decide +kernel) rfl, ⟨by decide, by decide, by decide +kernel⟩, by decide⟩
theorem ms_J1_indexOf_4cfef : Cond.static y_J1_indexOf_4cfef ∈ vtb := vtb_at 618 (by decide +kernel) rfl
theorem my_J0_indexOf_7cf53 : MY y_J0_indexOf_7cf53 prog_25_method_80_code 3 (some .int) 2 := ⟨vtb_at 602 (by decide +kernel) rfl, vtb_at 153 (by decide +kernel) rfl, ⟨by decide, by decide, by decide +kernel⟩, by decide⟩
theorem mi_J0_indexOf_7cf53 : MI y_J0_indexOf_7cf53 := ⟨vtb_at 600 (by decide +kernel) rfl, vtb_at 601 (by decide +kernel) rfl⟩
theorem ml_j1_637 : ML "java/lang/String" 637 y_J1_indexOf_4cfef := Or.inl (vtb_at 617 (by decide +kernel) rfl)
theorem ml_j0_88 : ML "java/lang/StringLatin1" 88 y_J1_canEncode_9a6ad := Or.inl (vtb_at 620 (by decide +kernel) rfl)
theorem ml_j0_95 : ML "java/lang/StringLatin1" 95 y_J1_indexOfChar_4cfef := Or.inl (vtb_at 627 (by decide +kernel) rfl)
def D_J1_canEncode_9a6ad (p0 : Int32) : Wd → Option (Int32 × Wd) := fun w =>
  if p0 < 0 then (some (0, w)) else (if 255 < p0 then (some (0, w)) else (some (1, w)))
set_option maxRecDepth 20000 in
theorem S_J1_canEncode_9a6ad {l0 : Launch} {ρ : Nat → Nat} {cs : Nat → ClassId} {G : va_G} (hρ : injN ρ) {p0 : Int32} {w : Wd} {rr : (Int32 × Wd)} (hD : D_J1_canEncode_9a6ad p0 w = some rr) : CtI l0 ρ cs G y_J1_canEncode_9a6ad prog_26_method_4_code 1 .boolean 0 [.int p0] w rr.1 rr.2 := by
  refine ctI_of hρ (by decide) (Nat.le_of_ble_eq_true rfl) (fun X hn h hR => ?_)
  unfold D_J1_canEncode_9a6ad at hD
  show gG ρ cs G X 0 [(0, .int p0)] [] w
  refine g_iload_n h 0 t_J1_canEncode_9a6ad_0 rfl ?_
  refine g_if_lt (tgt := 15) h t_J1_canEncode_9a6ad_1 (by decide) hD (fun hD => ?_) (fun hD => ?_)
  · refine g_iconst (v := 0) h t_J1_canEncode_9a6ad_15 (by decide) ?_
    obtain rfl := Option.some.inj hD
    exact hR _ _ t_J1_canEncode_9a6ad_16 (b01_n rfl)
  · refine g_iload_n h 0 t_J1_canEncode_9a6ad_4 rfl ?_
    refine g_sipush (v := 255) h t_J1_canEncode_9a6ad_5 (by decide) ?_
    refine g_icmp_gt (tgt := 15) h t_J1_canEncode_9a6ad_8 (by decide) hD (fun hD => ?_) (fun hD => ?_)
    · refine g_iconst (v := 0) h t_J1_canEncode_9a6ad_15 (by decide) ?_
      obtain rfl := Option.some.inj hD
      exact hR _ _ t_J1_canEncode_9a6ad_16 (b01_n rfl)
    · refine g_iconst (v := 1) h t_J1_canEncode_9a6ad_11 (by decide) ?_
      refine g_goto (tgt := 16) h t_J1_canEncode_9a6ad_12 (by decide) ?_
      obtain rfl := Option.some.inj hD
      exact hR _ _ t_J1_canEncode_9a6ad_16 (b01_n rfl)
def L_J1_indexOfChar_4cfef_7 (q2 : Nat) (x3 : Int32) (x4 : Int32) (k5 : Int32 → Wd → Option (Int32 × Wd)) (k6 : Wd → Option (Int32 × Wd)) : Nat → Int32 → Wd → Option (Int32 × Wd)
  | 0, _, _ => none
  | n7 + 1, x8, w9 =>
    if x3 ≤ x8 then (k6 w9) else (if ib x8 (slN q2) then (if (sby q2 x8.toNatClampNeg) = x4 then (k5 x8 w9) else (bd (x8 + 1) fun x10 => L_J1_indexOfChar_4cfef_7 q2 x3 x4 k5 k6 n7 x10 w9)) else none)
def J_J1_indexOfChar_4cfef_x22_1  : Int32 → Wd → Option (Int32 × Wd) := fun x11 w12 =>
  some (x11, w12)
def J_J1_indexOfChar_4cfef_x31_2  : Wd → Option (Int32 × Wd) := fun w13 =>
  some ((-1), w13)
def D_J1_indexOfChar_4cfef (o0 : Nat) (p1 : Int32) (p2 : Int32) (p3 : Int32) : Wd → Option (Int32 × Wd) := fun w =>
  bd (p1.toInt8.toInt32) fun x1 => L_J1_indexOfChar_4cfef_7 o0 p3 x1 J_J1_indexOfChar_4cfef_x22_1 J_J1_indexOfChar_4cfef_x31_2 FU p2 w
set_option maxRecDepth 20000 in
theorem Q_J1_indexOfChar_4cfef_7 {l0 : Launch} {ρ : Nat → Nat} {cs : Nat → ClassId} {G : va_G} {X : Cx} (hρ : injN ρ) (hn : X.2.2.2.2.2.2.2.2.2.2.1 = 6) (h : Okx l0 ρ cs G X prog_26_method_23_code "java/lang/StringLatin1" 0) {rr : (Int32 × Wd)} (hR : ∀ pc L, decode prog_26_method_23_code pc = .ok (.ireturn, 1) → narrow .int (.int rr.1) = .int rr.1 → gG ρ cs G X pc L [.int rr.1] rr.2) {q2 : Nat} (hq2 : q2 < 2) {x3 : Int32} {x4 : Int32} {k5 : Int32 → Wd → Option (Int32 × Wd)} (hk5 : ∀ (z5 : Int32) (w1 : Wd), k5 z5 w1 = some rr → gG ρ cs G X 22 [(5, .int z5)] [] w1) {k6 : Wd → Option (Int32 × Wd)} (hk6 : ∀ (w1 : Wd), k6 w1 = some rr → gG ρ cs G X 31 [] [] w1) : ∀ (n : Nat) (x8 : Int32) (w : Wd), L_J1_indexOfChar_4cfef_7 q2 x3 x4 k5 k6 n x8 w = some rr → gG ρ cs G X 7 [(0, .ref (ρ (210 + q2))), (3, .int x3), (4, .int x4), (5, .int x8)] [] w := by
  intro n
  induction n with
  | zero =>
    intro x8 w hD
    cases hD
  | succ n7 ih =>
    intro x8 w9 hD
    unfold L_J1_indexOfChar_4cfef_7 at hD
    refine g_iload h 3 t_J1_indexOfChar_4cfef_7 rfl ?_
    refine g_iload_n h 1 t_J1_indexOfChar_4cfef_9 rfl ?_
    refine g_icmp_ge (tgt := 31) h t_J1_indexOfChar_4cfef_10 (by decide) hD (fun hD => ?_) (fun hD => ?_)
    · refine g_loc (L' := []) h [] rfl ?_
      exact hk6 _ hD
    · refine g_aload_n h 0 t_J1_indexOfChar_4cfef_13 rfl ?_
      refine g_iload h 3 t_J1_indexOfChar_4cfef_14 rfl ?_
      refine g_sbald h q2 hq2 t_J1_indexOfChar_4cfef_16 hD (fun hD => ?_)
      refine g_iload h 2 t_J1_indexOfChar_4cfef_17 rfl ?_
      refine g_icmp_ne (tgt := 25) h t_J1_indexOfChar_4cfef_19 (by decide) hD (fun hD => ?_) (fun hD => ?_)
      · obtain ⟨x10, ex10, hD⟩ := bd_ex hD
        refine g_iinc (v := x10) (L' := [(5, .int x10), (0, .ref (ρ (210 + q2))), (3, .int x3), (4, .int x4)]) h hn t_J1_indexOfChar_4cfef_25 (k := 3) rfl (by rw [ex10]; rfl) (by decide) rfl ?_
        refine g_goto (tgt := 7) h t_J1_indexOfChar_4cfef_28 (by decide) ?_
        refine g_loc (L' := [(0, .ref (ρ (210 + q2))), (3, .int x3), (4, .int x4), (5, .int x10)]) h [1, 2, 3, 0] rfl ?_
        exact ih x10 _ hD
      · refine g_loc (L' := [(5, .int x8)]) h [3] rfl ?_
        exact hk5 x8 _ hD
set_option maxRecDepth 20000 in
theorem S_J1_indexOfChar_4cfef {l0 : Launch} {ρ : Nat → Nat} {cs : Nat → ClassId} {G : va_G} (hρ : injN ρ) {o0 : Nat} (ho0 : o0 < 2) {p1 : Int32} {p2 : Int32} {p3 : Int32} {w : Wd} {rr : (Int32 × Wd)} (hD : D_J1_indexOfChar_4cfef o0 p1 p2 p3 w = some rr) : CtI l0 ρ cs G y_J1_indexOfChar_4cfef prog_26_method_23_code 6 .int 0 [.ref (ρ (210 + o0)), .int p1, .int p2, .int p3] w rr.1 rr.2 := by
  refine ctI_of hρ (by decide) (Nat.le_of_ble_eq_true rfl) (fun X hn h hR => ?_)
  unfold D_J1_indexOfChar_4cfef at hD
  show gG ρ cs G X 0 [(0, .ref (ρ (210 + o0))), (1, .int p1), (2, .int p2), (3, .int p3)] [] w
  refine g_iload_n h 1 t_J1_indexOfChar_4cfef_0 rfl ?_
  refine g_i2b h t_J1_indexOfChar_4cfef_1 ?_
  refine g_bdI hD (fun x1 hD => ?_)
  refine g_istore (L' := [(4, .int x1), (0, .ref (ρ (210 + o0))), (1, .int p1), (2, .int p2), (3, .int p3)]) h hn t_J1_indexOfChar_4cfef_2 (by decide) rfl ?_
  refine g_iload_n h 3 t_J1_indexOfChar_4cfef_4 rfl ?_
  refine g_istore (L' := [(5, .int p2), (4, .int x1), (0, .ref (ρ (210 + o0))), (1, .int p1), (2, .int p2), (3, .int p3)]) h hn t_J1_indexOfChar_4cfef_5 (by decide) rfl ?_
  refine g_loc (L' := [(0, .ref (ρ (210 + o0))), (3, .int p3), (4, .int x1), (5, .int p2)]) h [2, 5, 1, 0] rfl ?_
  refine Q_J1_indexOfChar_4cfef_7 hρ hn h hR ho0 ?_ ?_ _ _ _ hD
  · intro x11 w12 hD
    unfold J_J1_indexOfChar_4cfef_x22_1 at hD
    refine g_iload h 0 t_J1_indexOfChar_4cfef_22 rfl ?_
    obtain rfl := Option.some.inj hD
    exact hR _ _ t_J1_indexOfChar_4cfef_24 rfl
  · intro w13 hD
    unfold J_J1_indexOfChar_4cfef_x31_2 at hD
    refine g_iconst (v := (-1)) h t_J1_indexOfChar_4cfef_31 (by decide) ?_
    obtain rfl := Option.some.inj hD
    exact hR _ _ t_J1_indexOfChar_4cfef_32 rfl
def D_J1_indexOf_4cfef (o0 : Nat) (p1 : Int32) (p2 : Int32) (p3 : Int32) : Wd → Option (Int32 × Wd) := fun w =>
  bc (D_J1_canEncode_9a6ad p1 w) fun x2 w1 => if x2 = 0 then (some ((-1), w1)) else (bd (imax p2 0) fun x3 => bd (imin p3 (slen o0)) fun x4 => if x3 < x4 then (bc (D_J1_indexOfChar_4cfef o0 p1 x3 x4 w1) fun x6 w5 => some (x6, w5)) else (some ((-1), w1)))
set_option maxRecDepth 20000 in
theorem S_J1_indexOf_4cfef {l0 : Launch} {ρ : Nat → Nat} {cs : Nat → ClassId} {G : va_G} (hρ : injN ρ) {o0 : Nat} (ho0 : o0 < 2) {p1 : Int32} {p2 : Int32} {p3 : Int32} {w : Wd} {rr : (Int32 × Wd)} (hD : D_J1_indexOf_4cfef o0 p1 p2 p3 w = some rr) : CtI l0 ρ cs G y_J1_indexOf_4cfef prog_26_method_22_code 4 .int 1 [.ref (ρ (210 + o0)), .int p1, .int p2, .int p3] w rr.1 rr.2 := by
  refine ctI_of hρ (by decide) (Nat.le_of_ble_eq_true rfl) (fun X hn h hR => ?_)
  unfold D_J1_indexOf_4cfef at hD
  show gG ρ cs G X 0 [(0, .ref (ρ (210 + o0))), (1, .int p1), (2, .int p2), (3, .int p3)] [] w
  refine g_iload_n h 1 t_J1_indexOf_4cfef_0 rfl ?_
  refine g_callSI h (As := [.int p1]) (st := []) my_J1_canEncode_9a6ad ms_J1_canEncode_9a6ad ml_j0_88 rfl rfl (Nat.le_of_ble_eq_true rfl) (by decide) t_J1_indexOf_4cfef_1 hD (fun _ _ e => S_J1_canEncode_9a6ad hρ  e) (fun x2 w1 hD => ?_)
  refine g_if_ne (tgt := 9) h t_J1_indexOf_4cfef_4 (by decide) hD (fun hD => ?_) (fun hD => ?_)
  · refine g_iload_n h 2 t_J1_indexOf_4cfef_9 rfl ?_
    refine g_iconst (v := 0) h t_J1_indexOf_4cfef_10 (by decide) ?_
    refine g_mmax h (st := []) (vtb_at 623 (by decide +kernel) rfl) (Nat.le_of_ble_eq_true rfl) t_J1_indexOf_4cfef_11 ?_
    refine g_bdI hD (fun x3 hD => ?_)
    refine g_istore_n (L' := [(2, .int x3), (0, .ref (ρ (210 + o0))), (1, .int p1), (3, .int p3)]) h hn t_J1_indexOf_4cfef_14 rfl (by decide) rfl ?_
    refine g_iload_n h 3 t_J1_indexOf_4cfef_15 rfl ?_
    refine g_aload_n h 1 t_J1_indexOf_4cfef_16 rfl ?_
    refine g_sblen h o0 ho0 t_J1_indexOf_4cfef_17 ?_
    refine g_mmin h (st := []) (vtb_at 626 (by decide +kernel) rfl) (Nat.le_of_ble_eq_true rfl) t_J1_indexOf_4cfef_18 ?_
    refine g_bdI hD (fun x4 hD => ?_)
    refine g_istore_n (L' := [(3, .int x4), (2, .int x3), (0, .ref (ρ (210 + o0))), (1, .int p1)]) h hn t_J1_indexOf_4cfef_21 rfl (by decide) rfl ?_
    refine g_iload_n h 1 t_J1_indexOf_4cfef_22 rfl ?_
    refine g_iload_n h 0 t_J1_indexOf_4cfef_23 rfl ?_
    refine g_icmp_lt (tgt := 29) h t_J1_indexOf_4cfef_24 (by decide) hD (fun hD => ?_) (fun hD => ?_)
    · refine g_aload_n h 2 t_J1_indexOf_4cfef_29 rfl ?_
      refine g_iload_n h 3 t_J1_indexOf_4cfef_30 rfl ?_
      refine g_iload_n h 1 t_J1_indexOf_4cfef_31 rfl ?_
      refine g_iload_n h 0 t_J1_indexOf_4cfef_32 rfl ?_
      refine g_callSI h (As := [.ref (ρ (210 + o0)), .int p1, .int x3, .int x4]) (st := []) my_J1_indexOfChar_4cfef ms_J1_indexOfChar_4cfef ml_j0_95 rfl rfl (Nat.le_of_ble_eq_true rfl) (by decide) t_J1_indexOf_4cfef_33 hD (fun _ _ e => S_J1_indexOfChar_4cfef hρ ho0 e) (fun x6 w5 hD => ?_)
      obtain rfl := Option.some.inj hD
      exact hR _ _ t_J1_indexOf_4cfef_36 rfl
    · refine g_iconst (v := (-1)) h t_J1_indexOf_4cfef_27 (by decide) ?_
      obtain rfl := Option.some.inj hD
      exact hR _ _ t_J1_indexOf_4cfef_28 rfl
  · refine g_iconst (v := (-1)) h t_J1_indexOf_4cfef_7 (by decide) ?_
    obtain rfl := Option.some.inj hD
    exact hR _ _ t_J1_indexOf_4cfef_8 rfl
def D_J0_coder_7d493 (o0 : Nat) : Wd → Option (Int32 × Wd) := fun w =>
  if (1 : Int32) = 0 then (some (1, w)) else (some (0, w))
set_option maxRecDepth 20000 in
theorem S_J0_coder_7d493 {l0 : Launch} {ρ : Nat → Nat} {cs : Nat → ClassId} {G : va_G} (hρ : injN ρ) {o0 : Nat} (ho0 : o0 < 2) {w : Wd} {rr : (Int32 × Wd)} (hD : D_J0_coder_7d493 o0 w = some rr) : CtI l0 ρ cs G y_J0_coder_7d493 prog_25_method_152_code 1 .byte 0 [.ref (ρ (200 + o0))] w rr.1 rr.2 := by
  refine ctI_of hρ (by decide) (Nat.le_of_ble_eq_true rfl) (fun X hn h hR => ?_)
  unfold D_J0_coder_7d493 at hD
  show gG ρ cs G X 0 [(0, .ref (ρ (200 + o0)))] [] w
  refine g_scs h (vtb_at 607 (by decide +kernel) rfl) t_J0_coder_7d493_0 ?_
  refine g_if_eq (tgt := 13) h t_J0_coder_7d493_3 (by decide) hD (fun hD => ?_) (fun hD => ?_)
  · refine g_iconst (v := 1) h t_J0_coder_7d493_13 (by decide) ?_
    obtain rfl := Option.some.inj hD
    exact hR _ _ t_J0_coder_7d493_14 nb_1
  · refine g_aload_n h 0 t_J0_coder_7d493_6 rfl ?_
    refine g_scod h o0 ho0 (vtb_at 1946 (by decide +kernel) rfl) t_J0_coder_7d493_7 ?_
    refine g_goto (tgt := 14) h t_J0_coder_7d493_10 (by decide) ?_
    obtain rfl := Option.some.inj hD
    exact hR _ _ t_J0_coder_7d493_14 nb_0
def D_J0_length_8abf5 (o0 : Nat) : Wd → Option (Int32 × Wd) := fun w =>
  bc (D_J0_coder_7d493 o0 w) fun x2 w1 => some ((slen o0) >>> (x2 &&& 31), w1)
set_option maxRecDepth 20000 in
theorem S_J0_length_8abf5 {l0 : Launch} {ρ : Nat → Nat} {cs : Nat → ClassId} {G : va_G} (hρ : injN ρ) {o0 : Nat} (ho0 : o0 < 2) {w : Wd} {rr : (Int32 × Wd)} (hD : D_J0_length_8abf5 o0 w = some rr) : CtI l0 ρ cs G y_J0_length_8abf5 prog_25_method_54_code 1 .int 1 [.ref (ρ (200 + o0))] w rr.1 rr.2 := by
  refine ctI_of hρ (by decide) (Nat.le_of_ble_eq_true rfl) (fun X hn h hR => ?_)
  unfold D_J0_length_8abf5 at hD
  show gG ρ cs G X 0 [(0, .ref (ρ (200 + o0)))] [] w
  refine g_aload_n h 0 t_J0_length_8abf5_0 rfl ?_
  refine g_sval h o0 ho0 (vtb_at 1947 (by decide +kernel) rfl) t_J0_length_8abf5_1 ?_
  refine g_sblen h o0 ho0 t_J0_length_8abf5_4 ?_
  refine g_aload_n h 0 t_J0_length_8abf5_5 rfl ?_
  refine g_callQI h o0 (As := []) (st := [.int (slen o0)]) my_J0_coder_7d493 mi_J0_coder_7d493 (vtb_at 613 (by decide +kernel) rfl) ho0 rfl rfl rfl (Nat.le_of_ble_eq_true rfl) (by decide) t_J0_length_8abf5_6 hD (fun _ _ e => S_J0_coder_7d493 hρ ho0 e) (fun x2 w1 hD => ?_)
  refine g_ishr h t_J0_length_8abf5_9 ?_
  obtain rfl := Option.some.inj hD
  exact hR _ _ t_J0_length_8abf5_10 rfl
def D_J0_isLatin1_aae02 (o0 : Nat) : Wd → Option (Int32 × Wd) := fun w =>
  if (1 : Int32) = 0 then (some (0, w)) else (if (0 : Int32) = 0 then (some (1, w)) else (some (0, w)))
set_option maxRecDepth 20000 in
theorem S_J0_isLatin1_aae02 {l0 : Launch} {ρ : Nat → Nat} {cs : Nat → ClassId} {G : va_G} (hρ : injN ρ) {o0 : Nat} (ho0 : o0 < 2) {w : Wd} {rr : (Int32 × Wd)} (hD : D_J0_isLatin1_aae02 o0 w = some rr) : CtI l0 ρ cs G y_J0_isLatin1_aae02 prog_25_method_154_code 1 .boolean 0 [.ref (ρ (200 + o0))] w rr.1 rr.2 := by
  refine ctI_of hρ (by decide) (Nat.le_of_ble_eq_true rfl) (fun X hn h hR => ?_)
  unfold D_J0_isLatin1_aae02 at hD
  show gG ρ cs G X 0 [(0, .ref (ρ (200 + o0)))] [] w
  refine g_scs h (vtb_at 607 (by decide +kernel) rfl) t_J0_isLatin1_aae02_0 ?_
  refine g_if_eq (tgt := 17) h t_J0_isLatin1_aae02_3 (by decide) hD (fun hD => ?_) (fun hD => ?_)
  · refine g_iconst (v := 0) h t_J0_isLatin1_aae02_17 (by decide) ?_
    obtain rfl := Option.some.inj hD
    exact hR _ _ t_J0_isLatin1_aae02_18 (b01_n rfl)
  · refine g_aload_n h 0 t_J0_isLatin1_aae02_6 rfl ?_
    refine g_scod h o0 ho0 (vtb_at 1946 (by decide +kernel) rfl) t_J0_isLatin1_aae02_7 ?_
    refine g_if_ne (tgt := 17) h t_J0_isLatin1_aae02_10 (by decide) hD (fun hD => ?_) (fun hD => ?_)
    · refine g_iconst (v := 0) h t_J0_isLatin1_aae02_17 (by decide) ?_
      obtain rfl := Option.some.inj hD
      exact hR _ _ t_J0_isLatin1_aae02_18 (b01_n rfl)
    · refine g_iconst (v := 1) h t_J0_isLatin1_aae02_13 (by decide) ?_
      refine g_goto (tgt := 18) h t_J0_isLatin1_aae02_14 (by decide) ?_
      obtain rfl := Option.some.inj hD
      exact hR _ _ t_J0_isLatin1_aae02_18 (b01_n rfl)
def D_J0_indexOf_7cf53 (o0 : Nat) (p1 : Int32) (p2 : Int32) : Wd → Option (Int32 × Wd) := fun w =>
  bc (D_J0_isLatin1_aae02 o0 w) fun x2 w1 => if x2 = 0 then (none) else (bc (D_J0_length_8abf5 o0 w1) fun x4 w3 => bc (D_J1_indexOf_4cfef o0 p1 p2 x4 w3) fun x6 w5 => some (x6, w5))
set_option maxRecDepth 20000 in
theorem S_J0_indexOf_7cf53 {l0 : Launch} {ρ : Nat → Nat} {cs : Nat → ClassId} {G : va_G} (hρ : injN ρ) {o0 : Nat} (ho0 : o0 < 2) {p1 : Int32} {p2 : Int32} {w : Wd} {rr : (Int32 × Wd)} (hD : D_J0_indexOf_7cf53 o0 p1 p2 w = some rr) : CtI l0 ρ cs G y_J0_indexOf_7cf53 prog_25_method_80_code 3 .int 2 [.ref (ρ (200 + o0)), .int p1, .int p2] w rr.1 rr.2 := by
  refine ctI_of hρ (by decide) (Nat.le_of_ble_eq_true rfl) (fun X hn h hR => ?_)
  unfold D_J0_indexOf_7cf53 at hD
  show gG ρ cs G X 0 [(0, .ref (ρ (200 + o0))), (1, .int p1), (2, .int p2)] [] w
  refine g_aload_n h 0 t_J0_indexOf_7cf53_0 rfl ?_
  refine g_callQI h o0 (As := []) (st := []) my_J0_isLatin1_aae02 mi_J0_isLatin1_aae02 (vtb_at 603 (by decide +kernel) rfl) ho0 rfl rfl rfl (Nat.le_of_ble_eq_true rfl) (by decide) t_J0_indexOf_7cf53_1 hD (fun _ _ e => S_J0_isLatin1_aae02 hρ ho0 e) (fun x2 w1 hD => ?_)
  refine g_if_eq (tgt := 23) h t_J0_indexOf_7cf53_4 (by decide) hD (fun hD => ?_) (fun hD => ?_)
  · cases hD
  · refine g_aload_n h 0 t_J0_indexOf_7cf53_7 rfl ?_
    refine g_sval h o0 ho0 (vtb_at 1947 (by decide +kernel) rfl) t_J0_indexOf_7cf53_8 ?_
    refine g_iload_n h 1 t_J0_indexOf_7cf53_11 rfl ?_
    refine g_iload_n h 2 t_J0_indexOf_7cf53_12 rfl ?_
    refine g_aload_n h 0 t_J0_indexOf_7cf53_13 rfl ?_
    refine g_callQI h o0 (As := []) (st := [.int p2, .int p1, .ref (ρ (210 + o0))]) my_J0_length_8abf5 mi_J0_length_8abf5 (vtb_at 609 (by decide +kernel) rfl) ho0 rfl rfl rfl (Nat.le_of_ble_eq_true rfl) (by decide) t_J0_indexOf_7cf53_14 hD (fun _ _ e => S_J0_length_8abf5 hρ ho0 e) (fun x4 w3 hD => ?_)
    refine g_callSI h (As := [.ref (ρ (210 + o0)), .int p1, .int p2, .int x4]) (st := []) my_J1_indexOf_4cfef ms_J1_indexOf_4cfef ml_j1_637 rfl rfl (Nat.le_of_ble_eq_true rfl) (by decide) t_J0_indexOf_7cf53_17 hD (fun _ _ e => S_J1_indexOf_4cfef hρ ho0 e) (fun x6 w5 hD => ?_)
    refine g_goto (tgt := 36) h t_J0_indexOf_7cf53_20 (by decide) ?_
    obtain rfl := Option.some.inj hD
    exact hR _ _ t_J0_indexOf_7cf53_36 rfl
def D_J0_indexOf_0f7a4 (o0 : Nat) (p1 : Int32) : Wd → Option (Int32 × Wd) := fun w =>
  bc (D_J0_indexOf_7cf53 o0 p1 0 w) fun x2 w1 => some (x2, w1)
set_option maxRecDepth 20000 in
theorem S_J0_indexOf_0f7a4 {l0 : Launch} {ρ : Nat → Nat} {cs : Nat → ClassId} {G : va_G} (hρ : injN ρ) {o0 : Nat} (ho0 : o0 < 2) {p1 : Int32} {w : Wd} {rr : (Int32 × Wd)} (hD : D_J0_indexOf_0f7a4 o0 p1 w = some rr) : CtI l0 ρ cs G y_J0_indexOf_0f7a4 prog_25_method_79_code 2 .int 3 [.ref (ρ (200 + o0)), .int p1] w rr.1 rr.2 := by
  refine ctI_of hρ (by decide) (Nat.le_of_ble_eq_true rfl) (fun X hn h hR => ?_)
  unfold D_J0_indexOf_0f7a4 at hD
  show gG ρ cs G X 0 [(0, .ref (ρ (200 + o0))), (1, .int p1)] [] w
  refine g_aload_n h 0 t_J0_indexOf_0f7a4_0 rfl ?_
  refine g_iload_n h 1 t_J0_indexOf_0f7a4_1 rfl ?_
  refine g_iconst (v := 0) h t_J0_indexOf_0f7a4_2 (by decide) ?_
  refine g_callQI h o0 (As := [.int p1, .int 0]) (st := []) my_J0_indexOf_7cf53 mi_J0_indexOf_7cf53 (vtb_at 599 (by decide +kernel) rfl) ho0 rfl rfl rfl (Nat.le_of_ble_eq_true rfl) (by decide) t_J0_indexOf_0f7a4_3 hD (fun _ _ e => S_J0_indexOf_7cf53 hρ ho0 e) (fun x2 w1 hD => ?_)
  obtain rfl := Option.some.inj hD
  exact hR _ _ t_J0_indexOf_0f7a4_6 rfl
