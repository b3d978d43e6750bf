/-! other -/
abbrev LB : List Nat := [6, 7, 8, 51, 52, 53, 85, 86, 105, 108]
def ldF (c L : Nat) (V1 V2 : (Nat → Int32) → Int32) : Nat → (Nat → Nat) → (Nat → Nat)
  | 0, P => P
  | n + 1, P => ldF c L V1 V2 n (rlS c L P (if P 14 = 0 then V1 else V2))
theorem rlS_over {c L : Nat} {P : Nat → Nat} {V : (Nat → Int32) → Int32} (h : overS c P = true) : rlS c L P V = P := by
  unfold rlS
  rw [if_pos h]
theorem ldF_over {c L : Nat} {V1 V2 : (Nat → Int32) → Int32} {P : Nat → Nat} (h : overS c P = true) : ∀ n, ldF c L V1 V2 n P = P := by
  intro n
  induction n with
  | zero => rfl
  | succ n ih =>
    show ldF c L V1 V2 n (rlS c L P _) = P
    rw [rlS_over h, ih]
section OT
variable {w w0 : Wd} {c L : Nat} {P P0 : Nat → Nat} {V1 V2 : (Nat → Int32) → Int32}
theorem c_ldloop {k3 : Wd → Option (Int32 × Wd)} {o : Nat} (ho : o = 103 ∨ o = 106) (hl : w0.1 75 18 = nI L) (h1 : JR w0 o V1) (h2 : JR w0 106 V2) : ∀ (n i fu : Nat) (P : Nat → Nat) (w : Wd), n + i = 20 → n < fu → okB c L (P 14) P → but LB w0 w → isAt w 6 c P → (∃ c' P', isAt w 51 c' P') → ∃ w1, L_X11_leadBy_13 o k3 fu (nI i) w = k3 w1 ∧ but LB w0 w1 ∧ isAt w1 6 c (ldF c L V1 V2 n P) ∧ (∃ c' P', isAt w1 51 c' P') := by
  have hoo : isRule o ∧ o ∉ LB ∧ o + 1 ∉ LB ∧ o + 2 ∈ LB := by rcases ho with e | e <;> subst e <;> exact ⟨by decide, by decide, by decide, by decide⟩
  intro n
  induction n with
  | zero =>
    intro i fu P w hi hf hB hb hat h51
    obtain ⟨fu, rfl⟩ : ∃ n', fu = n' + 1 := ⟨fu - 1, by omega⟩
    refine ⟨w, ?_, hb, hat, h51⟩
    unfold L_X11_leadBy_13
    rw [show (20 : Int32) = nI 20 from by decide +kernel, if_pos (nI_le (by omega) (by omega))]
  | succ n ih =>
    intro i fu P w hi hf hB hb hat h51
    obtain ⟨fu, rfl⟩ : ∃ n', fu = n' + 1 := ⟨fu - 1, by omega⟩
    have l75 : w.1 75 18 = nI L := by rw [hb.1 75 (by decide)]; exact hl
    have hz : nI (P 14) = 0 ↔ P 14 = 0 := nI_z (by have := hB.2.2.2.1; omega)
    unfold L_X11_leadBy_13
    rw [show (20 : Int32) = nI 20 from by decide +kernel, if_neg (nI_ge (by omega) (by omega)), isAt_m hat, l75]
    by_cases ht : P 14 = 0
    · obtain ⟨w1, e1, a1, b1, at1⟩ := c_play (q := 6) (o := o) (V := V1) (by decide) (by decide) hoo.1 hB hat h51 (JR_but h1 hb hoo.2.1 hoo.2.2.1)
      obtain ⟨w2, e2, b2, a2, at2⟩ := ih (i + 1) fu (rlS c L P V1) w1 (by omega) (by omega) (rlS_ok hB).1 (but_tr hb (but_sub b1 (by
        intro a ha
        simp only [List.mem_cons, List.not_mem_nil, or_false] at ha
        rcases ha with e | e | e | e | e | e | e | e | e <;> first | (rw [e]; decide) | (rw [e]; exact hoo.2.2.2)))) a1 at1
      rw [if_pos (hz.mpr ht), e1, bc_eq, bd_eq, nI_1]
      refine ⟨w2, e2, b2, ?_, at2⟩
      show isAt w2 6 c (ldF c L V1 V2 n (rlS c L P (if P 14 = 0 then V1 else V2)))
      rw [if_pos ht]
      exact a2
    · obtain ⟨w1, e1, a1, b1, at1⟩ := c_play (q := 6) (o := 106) (V := V2) (by decide) (by decide) (by decide) hB hat h51 (JR_but h2 hb (by decide) (by decide))
      obtain ⟨w2, e2, b2, a2, at2⟩ := ih (i + 1) fu (rlS c L P V2) w1 (by omega) (by omega) (rlS_ok hB).1 (but_tr hb (but_sub b1 (by decide))) a1 at1
      rw [if_neg (fun z => ht (hz.mp z)), e1, bc_eq, bd_eq, nI_1]
      refine ⟨w2, e2, b2, ?_, at2⟩
      show isAt w2 6 c (ldF c L V1 V2 n (rlS c L P (if P 14 = 0 then V1 else V2)))
      rw [if_neg ht]
      exact a2
theorem c_leadBy {o : Nat} (ho : o = 103 ∨ o = 106) (hl : w.1 75 18 = nI L) (h1 : JR w o V1) (h2 : JR w 106 V2) (hB : okB c L (P 14) P) (m0 : isAt w 0 c P) (hp : posC w) : ∃ w1, D_X11_leadBy o w = some (nI (ldF c L V1 V2 20 P 12) - nI (ldF c L V1 V2 20 P 13), w1) ∧ but LB w w1 ∧ qC EC0 [] w w1 := by
  obtain ⟨c6, P6, z6⟩ := hp 6 (by decide)
  obtain ⟨c5, P5, z5⟩ := hp 51 (by decide)
  have b0 : but LB w (pW w 6 c P) := but_sub pW_but (by decide)
  obtain ⟨w1, e1, b1, a1, at1⟩ := c_ldloop (k3 := J_X11_leadBy_x59_1) ho hl h1 h2 20 0 FU P (pW w 6 c P) rfl (by unfold FU; omega) hB b0 (pW_at _ _ _ _) ⟨c5, P5, isAt_pW (by decide) (by decide) (by decide) z5⟩
  rw [nI_0] at e1
  refine ⟨w1, ?_, b1, qC_at2 (r := 6) (s := 51) (by decide) (by decide) b1 (by decide) (by decide) ⟨_, _, a1⟩ at1⟩
  unfold D_X11_leadBy
  rw [d_take (by decide) (by decide) (by decide) z6 m0, bv_eq, e1]
  unfold J_X11_leadBy_x59_1
  rw [if_pos (by decide), if_pos (by decide), show (0 : Int32).toNatClampNeg = 0 from by decide, show (1 : Int32).toNatClampNeg = 1 from by decide, at_P a1 (i := 0) (by decide), at_P a1 (i := 1) (by decide)]
/-- the other rule of the reference -/
def oruM (u : Wd) (tx : List Nat) : Prop := u.1 119 49 = nI tx.length ∧ ∀ i x, tx[i]? = some x → u.1 (u.2.2 2) i = (nI x).toInt8.toInt32
theorem m_change {u : Wd} {rl tx : List Nat} (h1 : ruleM u rl) (h2 : oruM u tx) : ∃ u1, D_X12_changeRules u = some u1 ∧ ruleM u1 tx ∧ oruM u1 rl ∧ sameR [] [16, 49] [] [1, 2] u u1 ∧ u1.2.2 1 = u.2.2 2 ∧ u1.2.2 2 = u.2.2 1 ∧ u1.1 119 16 = u.1 119 49 ∧ u1.1 119 49 = u.1 119 16 := by
  have hq : bq (u.2.2 1) = true ∧ bq (u.2.2 2) = true ∧ u.2.2 1 ≠ 119 ∧ u.2.2 2 ≠ 119 := by
    rcases h1.1 with z | z <;> rw [z.1, z.2] <;> decide
  generalize hW : wI (wI (wZ (wZ u 1 (u.2.2 2)) 2 (u.2.2 1)) 119 16 (u.1 119 49)) 119 49 (u.1 119 16) = W
  have p1 : W.2.2 1 = u.2.2 2 := by rw [← hW]; rfl
  have p2 : W.2.2 2 = u.2.2 1 := by rw [← hW]; rfl
  have r : ∀ a, a ≠ 119 → W.1 a = u.1 a := fun a ha => by rw [← hW, wI_r ha, wI_r ha]; rfl
  have f16 : W.1 119 16 = u.1 119 49 := by rw [← hW, wI_at_ne (by decide), wI_at]
  have f49 : W.1 119 49 = u.1 119 16 := by rw [← hW, wI_at]
  have s : sameR [] [16, 49] [] [1, 2] u W := by
    rw [← hW]
    exact sameR_tr (sameR_tr (sameR_tr (sameR_z (by simp)) (sameR_z (by simp))) (sameR_f (by simp))) (sameR_f (by simp))
  refine ⟨W, ?_, ⟨?_, by rw [f16]; exact h2.1, fun i x hx => ?_⟩, ⟨by rw [f49]; exact h1.2.1, fun i x hx => ?_⟩, s, p1, p2, f16, f49⟩
  · unfold D_X12_changeRules
    rw [if_pos hq.1, if_pos hq.2.1, bd_eq, bd_eq, bd_eq, bd_eq, bd_eq]
    exact congrArg some hW
  · rw [p1, p2]
    rcases h1.1 with z | z
    · exact Or.inr ⟨z.2, z.1⟩
    · exact Or.inl ⟨z.2, z.1⟩
  · rw [p1, r _ hq.2.2.2]
    exact h2.2 i x hx
  · rw [p2, r _ hq.2.2.1]
    exact h1.2.2 i x hx
theorem oruM_same {u u' : Wd} {tx rl : List Nat} {E F T Z : List Nat} (hr : ruleM u rl) (m : oruM u tx) (h : sameR E F T Z u u') (h0 : 124 ∉ E) (h1 : 125 ∉ E) (h3 : 49 ∉ F) (hz2 : 2 ∉ Z) : oruM u' tx := by
  unfold oruM
  rw [h.2.2.2 2 hz2, h.2.1 49 h3, h.1 (u.2.2 2) (by rcases hr.1 with r | r <;> rw [r.2] <;> assumption) (by rcases hr.1 with r | r <;> rw [r.2] <;> decide)]
  exact m
/-- a MOVE by THE RULE, or by the other one -/
theorem m_go129 {u : Wd} {rl : List Nat} {cd : List Int32} {V : (Nat → Int32) → Int32} (hr : ruleM u rl) (okr : okRl rl cd V) (hc : u.1 119 1 = nI c) (hL : u.1 119 2 = nI L) (ha : arrM u) (hB : okB c L (P 14) P) (h : isM u 129 P) : ∃ u1, D_X12_goRule 129 u = some (if overS c P = true then 0 else 1, u1) ∧ isM u1 129 (rlS c L P V) ∧ arrM u1 ∧ sameR (129 :: EW) FW [] [0] u u1 := by
  obtain ⟨u1, g1, s1, i1, i2⟩ := m_goRule (a := 129) (V := V) (by decide) (by decide) (by decide) rfl hB h (ha 130 (by decide)) hc hL ⟨rl, cd, hr, okr⟩
  exact ⟨u1, g1, i1, arrM_at2 (r := 129) (s := 130) ha s1 (by decide) ⟨_, i1⟩ i2, s1⟩
theorem m_swapGo {u : Wd} {rl tx : List Nat} {cd' : List Int32} {V : (Nat → Int32) → Int32} (hr : ruleM u rl) (ho : oruM u tx) (okr : okRl tx cd' V) (hc : u.1 119 1 = nI c) (hL : u.1 119 2 = nI L) (ha : arrM u) (hB : okB c L (P 14) P) (h : isM u 129 P) : ∃ u1 u2 u3 r, D_X12_changeRules u = some u1 ∧ D_X12_goRule 129 u1 = some (r, u2) ∧ D_X12_changeRules u2 = some u3 ∧ isM u3 129 (rlS c L P V) ∧ arrM u3 ∧ ruleM u3 rl ∧ oruM u3 tx ∧ sameR (129 :: EW) FW [] [0] u u3 := by
  obtain ⟨u1, e1, r1, o1, s1, p1, p2, f1, f2⟩ := m_change hr ho
  obtain ⟨u2, e2, i2, a2, s2⟩ := m_go129 r1 okr ((s1.2.1 1 (by decide)).trans hc) ((s1.2.1 2 (by decide)).trans hL) (arrM_same ha s1 (by simp)) hB (isM_same h s1 (by simp) (by decide))
  obtain ⟨u3, e3, r3, o3, s3, p3, p4, f3, f4⟩ := m_change (ruleM_same r1 s2 (by decide) (by decide) (by decide) (by decide) (by decide)) (oruM_same r1 o1 s2 (by decide) (by decide) (by decide) (by decide))
  refine ⟨u1, u2, u3, _, e1, e2, e3, isM_same i2 s3 (by simp) (by decide), arrM_same a2 s3 (by simp), r3, o3, fun a ha' h9 => ?_, fun k hk => ?_, fun a ha' => ?_, fun k hk => ?_⟩
  · rw [s3.1 a (by simp) h9, s2.1 a ha' h9, s1.1 a (by simp) h9]
  · by_cases e16 : k = 16
    · subst e16
      rw [f3, s2.2.1 49 (by decide), f2]
    · by_cases e49 : k = 49
      · subst e49
        rw [f4, s2.2.1 16 (by decide), f1]
      · rw [s3.2.1 k (by simp [e16, e49]), s2.2.1 k hk, s1.2.1 k (by simp [e16, e49])]
  · rw [s3.2.2.1 a (by simp), s2.2.2.1 a ha', s1.2.2.1 a (by simp)]
  · by_cases e1' : k = 1
    · subst e1'
      rw [p3, s2.2.2.2 2 (by decide), p2]
    · by_cases e2' : k = 2
      · subst e2'
        rw [p4, s2.2.2.2 1 (by decide), p1]
      · rw [s3.2.2.2 k (by simp [e1', e2']), s2.2.2.2 k hk, s1.2.2.2 k (by simp [e1', e2'])]
theorem m_moreLoop {k3 : Wd → Option (Int32 × Wd)} {u0 : Wd} {rl tx : List Nat} {cd cd' : List Int32} {b : Bool} (okr : okRl rl cd V2) (oko : okRl tx cd' V1) (hc : u0.1 119 1 = nI c) (hL : u0.1 119 2 = nI L) : ∀ (n i fu : Nat) (P : Nat → Nat) (u : Wd), n + i = 20 → n < fu → okB c L (P 14) P → isM u 129 P → arrM u → ruleM u rl → oruM u tx → sameR (129 :: EW) FW [] [0] u0 u → ∃ u1, L_X12_more_14 (if b = true then 1 else 0) k3 fu (nI i) u = k3 u1 ∧ isM u1 129 (ldF c L (if b = true then V1 else V2) V2 n P) ∧ arrM u1 ∧ ruleM u1 rl ∧ oruM u1 tx ∧ sameR (129 :: EW) FW [] [0] u0 u1 := by
  intro n
  induction n with
  | zero =>
    intro i fu P u hi hf hB hat ha hr ho hs
    obtain ⟨fu, rfl⟩ : ∃ n', fu = n' + 1 := ⟨fu - 1, by omega⟩
    refine ⟨u, ?_, hat, ha, hr, ho, hs⟩
    unfold L_X12_more_14
    rw [show (20 : Int32) = nI 20 from by decide +kernel, if_pos (nI_le (by omega) (by omega))]
  | succ n ih =>
    intro i fu P u hi hf hB hat ha hr ho hs
    obtain ⟨fu, rfl⟩ : ∃ n', fu = n' + 1 := ⟨fu - 1, by omega⟩
    have f1 : u.1 119 1 = nI c := (hs.2.1 1 (by decide)).trans hc
    have f2 : u.1 119 2 = nI L := (hs.2.1 2 (by decide)).trans hL
    unfold L_X12_more_14
    rw [show (20 : Int32) = nI 20 from by decide +kernel, if_neg (nI_ge (by omega) (by omega)), m_over rfl hat f1 hB, bc_eq]
    by_cases hov : overS c P = true
    · rw [if_pos hov, if_neg (by decide), ldF_over hov]
      exact ⟨u, rfl, hat, ha, hr, ho, hs⟩
    · rw [if_neg hov, if_pos rfl, bd_eq, bd_eq]
      unfold J_X12_more_j49_3
      have hz : nI (P 14) = 0 ↔ P 14 = 0 := nI_z (by have := hB.2.2.2.1; omega)
      have h14 : (14 : Int32).toNatClampNeg = 14 := by decide
      -- by THE RULE
      have own : (if b = true then V1 else V2) = V2 ∨ P 14 ≠ 0 → ∃ u1, J_X12_more_j50_4 (L_X12_more_14 (if b = true then 1 else 0) k3 fu) (nI i) 0 u = k3 u1 ∧ isM u1 129 (ldF c L (if b = true then V1 else V2) V2 (n + 1) P) ∧ arrM u1 ∧ ruleM u1 rl ∧ oruM u1 tx ∧ sameR (129 :: EW) FW [] [0] u0 u1 := by
        intro hcase
        have eV : (if P 14 = 0 then (if b = true then V1 else V2) else V2) = V2 := by
          rcases hcase with z | z
          · rw [z]; split <;> rfl
          · rw [if_neg z]
        obtain ⟨u1, e1, i1, a1, s1⟩ := m_go129 hr okr f1 f2 ha hB hat
        obtain ⟨u2, e2, i2, a2, r2, o2, s2⟩ := ih (i + 1) fu (rlS c L P V2) u1 (by omega) (by omega) (rlS_ok hB).1 i1 a1 (ruleM_same hr s1 (by decide) (by decide) (by decide) (by decide) (by decide)) (oruM_same hr ho s1 (by decide) (by decide) (by decide) (by decide)) (sameR_tr hs s1)
        refine ⟨u2, ?_, ?_, a2, r2, o2, s2⟩
        · unfold J_X12_more_j50_4
          rw [bd_eq, if_pos rfl]
          unfold J_X12_more_j59_2
          rw [e1, bc_eq, bd_eq, if_pos rfl]
          unfold J_X12_more_j76_1
          rw [bd_eq, nI_1, e2]
        · show isM u2 129 (ldF c L (if b = true then V1 else V2) V2 n (rlS c L P (if P 14 = 0 then (if b = true then V1 else V2) else V2)))
          rw [eV]
          exact i2
      cases b with
      | false =>
        rw [if_pos (by decide)]
        exact own (Or.inl (by rfl))
      | true =>
        rw [if_neg (by decide), if_pos (by decide), h14, hat.1, eP_at]
        by_cases ht : P 14 = 0
        · rw [if_pos (hz.mpr ht)]
          obtain ⟨u1, u2, u3, r, e1, e2, e3, i3, a3, r3, o3, s3⟩ := m_swapGo hr ho oko f1 f2 ha hB hat
          obtain ⟨u4, e4, i4, a4, r4, o4, s4⟩ := ih (i + 1) fu (rlS c L P V1) u3 (by omega) (by omega) (rlS_ok hB).1 i3 a3 r3 o3 (sameR_tr hs s3)
          refine ⟨u4, ?_, ?_, a4, r4, o4, s4⟩
          · unfold J_X12_more_j50_4
            rw [bd_eq, if_neg (by decide), e1, bv_eq]
            unfold J_X12_more_j59_2
            rw [e2, bc_eq, bd_eq, if_neg (by decide), e3, bv_eq]
            unfold J_X12_more_j76_1
            rw [bd_eq, nI_1, e4]
          · show isM u4 129 (ldF c L (if true = true then V1 else V2) V2 n (rlS c L P (if P 14 = 0 then (if true = true then V1 else V2) else V2)))
            rw [if_pos ht]
            exact i4
        · rw [if_neg (fun z => ht (hz.mp z))]
          exact own (Or.inr ht)
theorem m_more {u : Wd} {rl tx : List Nat} {cd cd' : List Int32} {b : Bool} (okr : okRl rl cd V2) (oko : okRl tx cd' V1) (hc : u.1 119 1 = nI c) (hL : u.1 119 2 = nI L) (hB : okB c L (P 14) P) (h : isM u 120 P) (ha : arrM u) (hr : ruleM u rl) (ho : oruM u tx) : ∃ u1, D_X12_more (if b = true then 1 else 0) u = some (nI (ldF c L (if b = true then V1 else V2) V2 20 P 12) - nI (ldF c L (if b = true then V1 else V2) V2 20 P 13), u1) ∧ arrM u1 ∧ ruleM u1 rl ∧ oruM u1 tx ∧ sameR (129 :: EW) FW [] [0] u u1 := by
  obtain ⟨u1, g1, i1, s1⟩ := m_lay (a := 120) (b := 129) ln_120 (by decide) (by decide) h ha
  have s1' : sameR (129 :: EW) FW [] [0] u u1 := sameR_sub s1 (by decide) (by simp) (by simp) (by simp)
  obtain ⟨u2, e2, i2, a2, r2, o2, s2⟩ := m_moreLoop (k3 := J_X12_more_x82_5) (b := b) okr oko hc hL 20 0 FU P u1 rfl (by unfold FU; omega) hB i1 (arrM_at (r := 129) ha s1 (by decide) ⟨_, i1⟩) (ruleM_same hr s1' (by decide) (by decide) (by decide) (by decide) (by decide)) (oruM_same hr ho s1' (by decide) (by decide) (by decide) (by decide)) s1'
  rw [nI_0] at e2
  refine ⟨u2, ?_, a2, r2, o2, s2⟩
  unfold D_X12_more
  rw [g1, bv_eq, e2]
  unfold J_X12_more_x82_5
  rw [if_pos (by decide), if_pos (by decide), i2.1, show (12 : Int32).toNatClampNeg = 12 from by decide, show (13 : Int32).toNatClampNeg = 13 from by decide, eP_at, eP_at]
theorem m_copyO {k : Wd → Option (Int32 × Wd)} {tx : List Nat} (hS : ∀ x ∈ tx, x < 256) (h40 : tx.length ≤ 40) : ∀ (m i fu : Nat) (w : Wd), m + i = tx.length → m < fu → (w.2.2 2 = 124 ∨ w.2.2 2 = 125) → (∀ j x, tx[j]? = some x → w.1 121 j = (nI x).toInt8.toInt32) → (∀ j x, j < i → tx[j]? = some x → w.1 (w.2.2 2) j = (nI x).toInt8.toInt32) → ∃ w', L_X12_other_26 (nI tx.length) k fu (nI i) w = k w' ∧ sameR [w.2.2 2] [] [] [] w w' ∧ ∀ j x, tx[j]? = some x → w'.1 (w.2.2 2) j = (nI x).toInt8.toInt32 := by
  intro m
  induction m with
  | zero =>
    intro i fu w hi hf hp ht hd
    obtain ⟨fu, rfl⟩ : ∃ n', fu = n' + 1 := ⟨fu - 1, by omega⟩
    refine ⟨w, ?_, sameR_rf w, fun j x hx => hd j x ?_ hx⟩
    · unfold L_X12_other_26
      rw [if_pos (nI_le (by omega) (by omega))]
    · have := (List.getElem?_eq_some_iff.mp hx).1
      omega
  | succ m ih =>
    intro i fu w hi hf hp ht hd
    obtain ⟨fu, rfl⟩ : ∃ n', fu = n' + 1 := ⟨fu - 1, by omega⟩
    have hx : tx[i]? = some tx[i] := List.getElem?_eq_getElem (by omega)
    have hb : bq (w.2.2 2) = true ∧ ln (w.2.2 2) = 40 ∧ w.2.2 2 ≠ 121 ∧ w.2.2 2 ≠ 119 := by rcases hp with h | h <;> rw [h] <;> decide
    unfold L_X12_other_26
    rw [if_neg (nI_ge (by omega) (by omega)), if_pos hb.1, if_pos (ib_nI (by omega) (by omega)), hb.2.1, if_pos (ib_nI (by omega) (by omega)), bd_eq, bd_eq, nI_clamp (by omega), ht i _ hx, byteN _ (hS _ (List.mem_of_getElem? hx)), nI_1]
    obtain ⟨w', e1, e2, e3⟩ := ih (i + 1) fu (wI w (w.2.2 2) i (nI tx[i]).toInt8.toInt32) (by omega) (by omega) hp (fun j x hj => by rw [wI_r (Ne.symm hb.2.2.1)]; exact ht j x hj) (fun j x hj hxx => by
      show (wI w (w.2.2 2) i _).1 (w.2.2 2) j = _
      by_cases e : j = i
      · subst e
        rw [wI_at]
        rw [hx] at hxx
        cases hxx
        rfl
      · rw [wI_at_ne e]
        exact hd j x (by omega) hxx)
    exact ⟨w', e1, sameR_tr (sameR_r (by simp) hb.2.2.2) e2, e3⟩
end OT
theorem call_other : Call D_X11_other D_X12_other := by
  intro B w hBB ⟨c, L, P, hs, tx, rl, cd, V, kp, cl, si, rw, m, n, ok, okr, hcm⟩
  have hB := okB_of ok
  obtain ⟨hl, hx⟩ := ok.2.2.2.2.2.1
  obtain ⟨w1, b1, r1⟩ := c_read m.2.2.2.2.1 hl hx
  have q1 : qC EC0 [] w w1 := qC_hi (E' := RR) (T' := []) (same_but b1) (by decide) (by decide) (by simp)
  obtain ⟨k1, o1⟩ := CR_q0 m q1
  obtain ⟨k2, o2⟩ := CR_text (tx' := []) k1 (same_wI (w := w1) (i := 80) (k := 1) (v := 0) (by simp)) ⟨by rw [wI_at]; rfl, fun i x h => by simp at h⟩
  have hclr : ∀ u : Wd, D_X9_clear u = some (wI u 80 1 0) := fun u => rfl
  have okS' : ∀ rw', rw'.length ≤ 20 → okS c L P hs [] kp cl si rw' (B + 108) := by
    intro rw' hr
    obtain ⟨a1, a2, a3, a4, a5, a6, a7, a8, a9, -, a11⟩ := okS_text (tx' := []) hBB ok (by simp) (by simp)
    exact ⟨a1, a2, a3, a4, a5, a6, a7, a8, a9, hr, a11⟩
  -- what the reference reads, over any world of the class
  have hM : ∀ v, onC w v → ∃ b u1, D_X12_readRule (wI v 119 7 0) = some (b, u1) ∧ sameR [] [4, 7, 9, 10, 11, 12, 17] [] [0] v u1 ∧ u1.1 119 4 = 0 ∧ MR u1 c L P hs [] rl kp cl si rw ∧ onM v u1 ∧ ((∃ q, tx ≠ [] ∧ flS tx q ∧ b = 0 ∧ u1.1 119 12 = nI q) ∨ (b = 1 ∧ (tx = [] ∨ tx ≠ [] ∧ ∃ cd V, okc tx cd ∧ Blk cd V))) := by
    intro v hv
    have n' := MR_on hv n
    have t0 : textM (wI v 119 7 0) tx := textM_same n'.2.2.2.2.1 (sameR_f (E := []) (F := [7]) (T := []) (Z := []) (by simp)) (by simp) (by decide)
    obtain ⟨b, u1, e1, e2, e3, e4⟩ := m_readRule t0 hl hx
    have s : sameR [] [4, 7, 9, 10, 11, 12, 17] [] [0] v u1 := sameR_tr (sameR_f (k := 7) (v := 0) (by simp)) (sameR_sub e2 (by simp) (by decide) (by simp) (by simp))
    obtain ⟨n1, n2, n3, n4, n5, n6, n7, n8, n9, n10, n11⟩ := n'
    exact ⟨b, u1, e1, s, e3, ⟨(s.2.1 1 (by decide)).trans n1, (s.2.1 2 (by decide)).trans n2, isM_same n3 s (by simp) (by decide), histM_same n4 s (by simp) (by decide), ⟨by rw [e3]; rfl, fun i x h => by simp at h⟩, rowM_same n6 s (by simp) (by decide), keptM_same n7 s (by simp) (by simp) (by simp) (by decide), heardM_same n8 s (by simp) (by simp) (by decide), sawM_same n9 s (by simp) (by simp) (by decide), ruleM_same n10 s (by simp) (by simp) (by decide) (by decide) (by decide), arrM_same n11 s (by simp)⟩, onM_sameR s (by simp) (by simp) (by decide), e4⟩
  rcases r1 with ⟨q, hne, hf, hD⟩ | ⟨hD, hcode⟩
  · -- THE TEXT is no rule
    have hDc : D_X11_other w = some (-1 - nI q, wI w1 80 1 0) := by
      unfold D_X11_other
      rw [hD, bc_eq, hclr, bv_eq, if_neg (nI_nm (fl_100 hf))]
    obtain ⟨b, u1, e1, s1, e3, n1, on1, hor⟩ := hM _ (onC_tr o1 o2)
    rcases hor with ⟨q', -, hf', hb, h12⟩ | ⟨hb, htx⟩
    · have := fl_uniq hf hf'
      subst this
      refine ⟨_, _, u1, hDc, ?_, c, L, P, hs, [], rl, cd, V, kp, cl, si, rw, CR_on on1 k2, n1, okS' rw (okS_rw ok), okr, (came_on (came_onC hcm (onC_tr o1 o2)) on1).2⟩
      unfold D_X12_other
      rw [bd_eq, bd_eq, e1, bc_eq, if_pos hb, h12]
    · exfalso
      rcases htx with e | ⟨-, cd', V', ⟨dg, cm, W, O, hcl, -⟩, -⟩
      · exact hne e
      · exact fl_not hcl hf
  · -- the codes of the other rule
    obtain ⟨cd', hcd', hj1, htxcd⟩ : ∃ cd', codeW w1 103 cd' ∧ cd'.length ≤ 40 ∧ ((tx = [] ∧ cd' = []) ∨ (tx ≠ [] ∧ okc tx cd')) := by
      rcases hcode with ⟨he, hc⟩ | ⟨dg, cm, W, O, hne, h1, hc⟩
      · exact ⟨[], hc, by simp, Or.inl ⟨he, rfl⟩⟩
      · have ho : okc tx (flush 1 W O).2 := ⟨dg, cm, W, O, h1, rfl⟩
        exact ⟨_, hc, okc_len hx ho, Or.inr ⟨hne, ho⟩⟩
    -- the reference reads it too (over any world): so it has a meaning
    obtain ⟨V', okr'⟩ : ∃ V', okRl tx cd' V' := by
      obtain ⟨b, u1, e1, s1, e3, n1, on1, hor⟩ := hM w (onC_rf w)
      rcases htxcd with ⟨e, e'⟩ | ⟨hne, hok⟩
      · exact ⟨V0, hx, Or.inl ⟨e, e', rfl⟩⟩
      · rcases hor with ⟨q', -, hf', -, -⟩ | ⟨-, htx⟩
        · exfalso
          obtain ⟨dg, cm, W, O, hcl, -⟩ := hok
          exact fl_not hcl hf'
        · rcases htx with e | ⟨-, cd2, V', hok2, hblk⟩
          · exact absurd e hne
          · have := okc_fun hok hok2
            subst this
            exact ⟨V', hx, Or.inr ⟨hne, hok, hblk⟩⟩
    have h40 : tx.length ≤ 40 := by
      rcases htxcd with ⟨e, -⟩ | ⟨-, hok⟩
      · rw [e]; decide
      · exact okc_40 hok
    have jr1 : JR (wI w1 80 1 0) 103 V' := by
      have e103 : (wI w1 80 1 0).1 103 = w1.1 103 := wI_r (by decide)
      have e104 : (wI w1 80 1 0).1 (103 + 1) = w1.1 (103 + 1) := wI_r (by decide)
      unfold JR
      rw [e103, e104]
      obtain ⟨-, ⟨-, h2, h3⟩ | ⟨-, h2, h3⟩⟩ := okr'
      · subst h2
        exact Or.inl ⟨by rw [hcd'.1]; rfl, h3⟩
      · exact Or.inr ⟨cd', hcd'.2, hcd'.1, hj1, h3⟩
    have jr2 : JR (wI w1 80 1 0) 106 V := JR_of k2.2.2.2.2.2.2.2.2.2.1 okr
    obtain ⟨w2, e2, b2, q2⟩ := c_leadBy (o := 103) (Or.inl rfl) k2.2.1 jr1 jr2 hB k2.1 k2.2.2.1
    obtain ⟨k3, o3⟩ := CR_q0 k2 q2
    obtain ⟨w3, e3, b3, q3⟩ := c_leadBy (o := 106) (Or.inr rfl) k3.2.1 (JR_but jr2 b2 (by decide) (by decide)) (JR_but jr2 b2 (by decide) (by decide)) hB k3.1 k3.2.2.1
    obtain ⟨k4, o4⟩ := CR_q0 k3 q3
    generalize hx1 : nI (ldF c L V' V 20 P 12) - nI (ldF c L V' V 20 P 13) = y1 at e2
    generalize hx2 : nI (ldF c L V V 20 P 12) - nI (ldF c L V V 20 P 13) = y2 at e3
    obtain ⟨w4, t1, t2, t3⟩ := d_tell2 w3 (300 + y1).toInt64 (300 + y2).toInt64
    obtain ⟨k5, o5⟩ := CR_q k4 (qC_hi t3 (by decide) (by decide) (by decide)) t2
    have hDc : D_X11_other w = some ((600 + y1) - y2, w4) := by
      unfold D_X11_other
      rw [hD, bc_eq, hclr, bv_eq, if_pos rfl, e2, bc_eq, e3, bc_eq, t1, bv_eq]
    have oAll : onC w w4 := onC_tr o1 (onC_tr o2 (onC_tr o3 (onC_tr o4 o5)))
    obtain ⟨b, u1, f1, s1, f3, n1, on1, hor⟩ := hM w4 oAll
    have hb1 : b = 1 := by
      rcases hor with ⟨q', hne', hf', -, -⟩ | ⟨hb, -⟩
      · exfalso
        rcases htxcd with ⟨e, -⟩ | ⟨-, dg, cm, W, O, hcl, -⟩
        · exact hne' e
        · exact fl_not hcl hf'
      · exact hb
    have hn4 := MR_on oAll n
    have hp2 : u1.2.2 2 = 124 ∨ u1.2.2 2 = 125 := by
      rcases n1.2.2.2.2.2.2.2.2.2.1.1 with z | z
      · exact Or.inr z.2
      · exact Or.inl z.2
    obtain ⟨u2, g2, s2, z2⟩ := m_copyO (k := J_X12_other_x49_1 (nI tx.length)) hx h40 tx.length 0 FU u1 (by omega) (by unfold FU; omega) hp2 (fun j x hj => by rw [s1.1 121 (by simp) (by decide)]; exact hn4.2.2.2.2.1.2 j x hj) (fun j x hj => absurd hj (by omega))
    rw [nI_0] at g2
    have hne12 : u1.2.2 1 ≠ u1.2.2 2 := by
      rcases n1.2.2.2.2.2.2.2.2.2.1.1 with z | z <;> rw [z.1, z.2] <;> decide
    have h119 : u1.2.2 2 ≠ 119 := by rcases hp2 with z | z <;> rw [z] <;> decide
    generalize hu3 : wI u2 119 49 (nI tx.length) = u3
    have r3 : ∀ a, a ≠ 119 → a ≠ u1.2.2 2 → u3.1 a = u1.1 a := fun a h1 h2 => by rw [← hu3, wI_r h1, s2.1 a (by simpa using h2) h1]
    have ff3 : ∀ k, k ≠ 49 → u3.1 119 k = u1.1 119 k := fun k hk => by rw [← hu3, wI_at_ne hk, s2.2.1 k (by simp)]
    have zz3 : ∀ k, u3.2.2 k = u1.2.2 k := fun k => by rw [← hu3]; exact s2.2.2.2 k (by simp)
    have jj3 : ∀ a, u3.2.1 a = u1.2.1 a := fun a => by rw [← hu3]; exact s2.2.2.1 a (by simp)
    have s3 : sameR [124, 125] [49] [] [] u1 u3 := ⟨fun a ha h9 => r3 a h9 (fun z => ha (by rw [z]; rcases hp2 with y | y <;> rw [y] <;> decide)), fun k hk => ff3 k (by simpa using hk), fun a _ => jj3 a, fun k _ => zz3 k⟩
    have ru3 : ruleM u3 rl := by
      obtain ⟨x1, x2, x3⟩ := n1.2.2.2.2.2.2.2.2.2.1
      have h1n : u1.2.2 1 ≠ 119 := by rcases x1 with z | z <;> rw [z.1] <;> decide
      refine ⟨by rw [zz3, zz3]; exact x1, by rw [ff3 16 (by decide)]; exact x2, fun i x hi => ?_⟩
      rw [zz3, r3 _ h1n hne12]
      exact x3 i x hi
    have or3 : oruM u3 tx := by
      refine ⟨by rw [← hu3, wI_at], fun i x hi => ?_⟩
      rw [zz3, ← hu3, wI_r h119]
      exact z2 i x hi
    have i3 : isM u3 120 P := isM_same n1.2.2.1 s3 (by decide) (by decide)
    have a3 : arrM u3 := arrM_same (arrM_of n1) s3 (by decide)
    obtain ⟨u4, g4, a4, ru4, or4, s4⟩ := m_more (b := true) okr okr' ((s3.2.1 1 (by decide)).trans n1.1) ((s3.2.1 2 (by decide)).trans n1.2.1) hB i3 a3 ru3 or3
    have s34 := sameR_tr (sameR_sub (E' := [124, 125, 126, 129, 130]) (F' := [9, 10, 11, 12, 17, 19, 20, 21, 49]) (T' := []) (Z' := [0]) s3 (by decide) (by decide) (by simp) (by simp)) (sameR_sub s4 (by decide) (by decide) (by simp) (by simp))
    obtain ⟨u5, g5, a5, ru5, or5, s5⟩ := m_more (b := false) okr okr' ((s34.2.1 1 (by decide)).trans n1.1) ((s34.2.1 2 (by decide)).trans n1.2.1) hB (isM_same n1.2.2.1 s34 (by decide) (by decide)) a4 ru4 or4
    have g4' : D_X12_more 1 u3 = some (y1, u4) := by rw [← hx1]; exact g4
    have g5' : D_X12_more 0 u4 = some (y2, u5) := by rw [← hx2]; exact g5
    obtain ⟨u6, g6, r6, s6⟩ := d_tellM (row0M u5) (by decide) (300 + y1).toInt64
    obtain ⟨u7, g7, r7, s7⟩ := d_tellM r6 (by simp) (300 + y2).toInt64
    have s35 := sameR_tr s34 (sameR_sub s5 (by decide) (by decide) (by simp) (by simp))
    have sT : ∀ {x y : Wd}, sameM [] [122] [6] x y → sameR [124, 125, 126, 129, 130] [6, 9, 10, 11, 12, 17, 19, 20, 21, 49] [122] [0] x y := fun h => ⟨fun a _ h9 => h.1.1 a (by simp [h9]), fun k hk => h.2 k (by simp only [List.mem_cons, List.not_mem_nil, or_false, not_or] at hk ⊢; exact hk.1), fun a ha => h.1.2.1 a ha, fun k _ => by rw [h.1.2.2]⟩
    have sAll : sameR [124, 125, 126, 129, 130] [6, 9, 10, 11, 12, 17, 19, 20, 21, 49] [122] [0] u1 u7 := sameR_tr (sameR_sub s35 (by decide) (by decide) (by simp) (by simp)) (sameR_tr (sameR_f (k := 6) (v := 0) (by simp)) (sameR_tr (sT s6) (sT s7)))
    have s57 : sameR [] [6] [122] [] u5 u7 := sameR_tr (sameR_f (k := 6) (v := 0) (by simp)) (sameR_tr ⟨fun a _ h9 => s6.1.1 a (by simp [h9]), s6.2, s6.1.2.1, fun k _ => by rw [s6.1.2.2]⟩ ⟨fun a _ h9 => s7.1.1 a (by simp [h9]), s7.2, s7.1.2.1, fun k _ => by rw [s7.1.2.2]⟩)
    have hDm : D_X12_other w4 = some ((600 + y1) - y2, u7) := by
      unfold D_X12_other
      rw [bd_eq, bd_eq, f1, bc_eq, if_neg (by rw [hb1]; decide), wI_at_ne (by decide), hn4.2.2.2.2.1.1, g2]
      unfold J_X12_other_x49_1
      rw [bd_eq, hu3, g4', bc_eq, g5', bc_eq, bd_eq, g6, bv_eq, g7, bv_eq]
    obtain ⟨n1', n2, n3, n4, n5, n6, n7, n8, n9, n10, n11⟩ := n1
    have kk : MR u7 c L P hs [] rl kp cl si [(300 + y1).toInt64, (300 + y2).toInt64] := ⟨(sAll.2.1 1 (by decide)).trans n1', (sAll.2.1 2 (by decide)).trans n2, isM_same n3 sAll (by decide) (by decide), histM_same n4 sAll (by decide) (by decide), textM_same n5 sAll (by decide) (by decide), r7, keptM_same n7 sAll (by decide) (by decide) (by decide) (by decide), heardM_same n8 sAll (by decide) (by decide) (by decide), sawM_same n9 sAll (by decide) (by decide) (by decide), ruleM_same ru5 s57 (by simp) (by simp) (by decide) (by simp) (by simp), arrM_same a5 s57 (by simp)⟩
    have onAll : onM w4 u7 := onM_tr on1 (onM_sameR sAll (by decide) (by decide) (by decide))
    exact ⟨_, w4, u7, hDc, hDm, c, L, P, hs, [], rl, cd, V, kp, cl, si, _, CR_on onAll k5, kk, okS' _ (by simp), okr, (came_on (came_onC hcm oAll) onAll).2⟩
