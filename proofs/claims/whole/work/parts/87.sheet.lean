/-! sheet -/
def kdF (kind v : Int32) : Int32 := if kind = 0 then v.toInt8.toInt32 else if kind = 1 then v.toInt16.toInt32 else v
theorem clip9 (x : Int32) : ∃ g, g ≤ 9 ∧ imax 0 (imin 9 x) = nI g := by
  unfold imax imin
  by_cases h1 : x < 9
  · rw [if_pos h1]
    by_cases h2 : (0 : Int32) < x
    · rw [if_pos h2]
      obtain ⟨j, hj, rfl⟩ := nI_of (x := x) (by
        rw [Int32.lt_iff_toInt_lt] at h2 ⊢
        have : (0 : Int32).toInt = 0 := by decide
        omega)
      refine ⟨j, ?_, rfl⟩
      have : j < 9 := (nI_ltI hj (by decide)).mp (by rw [show nI 9 = (9 : Int32) from by decide +kernel]; exact h1)
      omega
    · rw [if_neg h2]
      exact ⟨0, by omega, nI_0.symm⟩
  · rw [if_neg h1, if_pos (by decide)]
    exact ⟨9, by omega, by decide +kernel⟩
/-- what a sheet lays into PIT i -/
def enF (kind f st : Int32) (i : Nat) : Nat := (imax 0 (imin 9 (kdF kind (f + nI i * st)))).toNatClampNeg
theorem enF_ok (kind f st : Int32) (i : Nat) : enF kind f st i ≤ 9 ∧ imax 0 (imin 9 (kdF kind (f + nI i * st))) = nI (enF kind f st i) := by
  obtain ⟨g, h1, h2⟩ := clip9 (kdF kind (f + nI i * st))
  unfold enF
  rw [h2, nI_clamp (by omega)]
  exact ⟨h1, rfl⟩
def shP (c told : Nat) (kind f st : Int32) (P : Nat → Nat) : Nat → Nat := fun k => if k < 2 * c then (if k < told then enF kind f st k else 0) else P k
theorem tot_sh {c told : Nat} {kind f st : Int32} {P : Nat → Nat} (h6 : c ≤ 6) : tot (shP c told kind f st P) ≤ tot P + 108 := by
  have key : ∀ n, n ≤ 12 → sumS (shP c told kind f st P) 0 n ≤ sumS P 0 n + 9 * n := by
    intro n
    induction n with
    | zero => intro _; exact Nat.le_refl _
    | succ n ih =>
      intro hn
      have h1 := ih (by omega)
      show sumS (shP c told kind f st P) 0 n + shP c told kind f st P (0 + n) ≤ sumS P 0 n + P (0 + n) + 9 * (n + 1)
      have h2 : shP c told kind f st P (0 + n) ≤ P (0 + n) + 9 := by
        unfold shP
        split
        · split
          · have := (enF_ok kind f st (0 + n)).1
            omega
          · omega
        · omega
      omega
  have e1 : tot (shP c told kind f st P) = sumS (shP c told kind f st P) 0 12 + shP c told kind f st P 12 + shP c told kind f st P 13 := rfl
  have e2 : tot P = sumS P 0 12 + P 12 + P 13 := rfl
  have e3 : shP c told kind f st P 12 = P 12 := if_neg (by omega)
  have e4 : shP c told kind f st P 13 = P 13 := if_neg (by omega)
  have := key 12 (by omega)
  omega
theorem st_add (f st : Int32) (i : Nat) : f + nI i * st + st = f + nI (i + 1) * st := by
  rw [Int32.add_assoc, ← nI_1, Int32.add_mul, Int32.one_mul]
section SH
variable {w u : Wd} {c told : Nat} {kind f st : Int32} {P : Nat → Nat}
theorem c_entry (kind v : Int32) (w : Wd) : D_X11_entry kind v w = some (imax 0 (imin 9 (kdF kind v)), w) := by
  unfold D_X11_entry kdF
  rw [bd_eq]
  by_cases h0 : kind = 0
  · rw [if_pos h0, if_pos h0]; rfl
  · rw [if_neg h0, if_neg h0]
    by_cases h1 : kind = 1
    · rw [if_pos h1, if_pos h1]; rfl
    · rw [if_neg h1, if_neg h1]; rfl
theorem c_shloop {x12 : Int32} {k : Wd → Option (Int32 × Wd)} (h6 : c ≤ 6) (ht : told ≤ 12) : ∀ (n i fu : Nat) (w : Wd), n + i = 2 * c → n < fu → w.1 0 2 = nI c → (∀ j, w.1 1 j = if j < i then sP (shP c told kind f st P) j else sP P j) → ∃ w1, L_X11_sheet_56 kind f st x12 (nI told) k fu (nI i) w = k w1 ∧ but [1] w w1 ∧ w1.1 1 = sP (shP c told kind f st P) := by
  intro n
  induction n with
  | zero =>
    intro i fu w hi hf hc hr
    obtain ⟨fu, rfl⟩ : ∃ n', fu = n' + 1 := ⟨fu - 1, by omega⟩
    refine ⟨w, ?_, but_rf w, ?_⟩
    · unfold L_X11_sheet_56 D_X5_pits
      rw [hc, nI_2', pk_mul, bc_eq, if_pos (nI_le (by omega) (by omega))]
    · funext j
      rw [hr j]
      by_cases hj : j < i
      · rw [if_pos hj]
      · rw [if_neg hj]
        unfold sP
        rw [show shP c told kind f st P j = P j from if_neg (by omega)]
  | succ n ih =>
    intro i fu w hi hf hc hr
    obtain ⟨fu, rfl⟩ : ∃ n', fu = n' + 1 := ⟨fu - 1, by omega⟩
    have b1 : but [1] w (wI w 1 i (nI (shP c told kind f st P i))) := but_wI (by simp)
    obtain ⟨w1, g1, g2, g3⟩ := ih (i + 1) fu (wI w 1 i (nI (shP c told kind f st P i))) (by omega) (by omega) (by rw [wI_r (by decide)]; exact hc) (fun j => by
      by_cases e : j = i
      · subst e
        rw [wI_at, if_pos (by omega)]
        unfold sP
        rw [if_pos (by omega)]
      · rw [wI_at_ne e, hr j]
        by_cases hj : j < i
        · rw [if_pos hj, if_pos (by omega)]
        · rw [if_neg hj, if_neg (by omega)])
    refine ⟨w1, ?_, but_tr b1 g2, g3⟩
    have e0 : shP c told kind f st P i = if i < told then enF kind f st i else 0 := if_pos (by omega)
    unfold L_X11_sheet_56 D_X5_pits
    rw [hc, nI_2', pk_mul, bc_eq, if_neg (nI_ge (by omega) (by omega)), bd_eq]
    by_cases c1 : told ≤ i
    · rw [if_neg (by omega)] at e0
      rw [if_pos (nI_le c1 (by omega))]
      unfold J_X11_sheet_j99_1
      rw [if_pos (ib_nI (by omega) (by decide)), bd_eq, bd_eq, nI_clamp (by omega), nI_1, nI_0', ← e0]
      exact g1
    · rw [if_pos (by omega)] at e0
      rw [if_neg (nI_ge (by omega) (by omega)), c_entry, bc_eq, (enF_ok kind f st i).2, ← e0]
      unfold J_X11_sheet_j99_1
      rw [if_pos (ib_nI (by omega) (by decide)), bd_eq, bd_eq, nI_clamp (by omega), nI_1]
      exact g1
theorem m_shloop {p2 : Int32} {k : Wd → Option (Int32 × Wd)} (h6 : c ≤ 6) (ht : told ≤ 12) (hk : kind = 3 ∧ told = 0 ∨ kind ≠ 3 ∧ p2 = nI told) : ∀ (n i fu : Nat) (u : Wd), n + i = 2 * c → n < fu → u.1 119 1 = nI c → (∀ j, u.1 120 j = if j < i then nI (shP c told kind f st P j) else nI (P j)) → ∃ u1, L_X12_sheet_40 kind p2 st k fu (f + nI i * st) (nI i) u = k u1 ∧ sameR [120] [] [] [] u u1 ∧ u1.1 120 = eP (shP c told kind f st P) := by
  intro n
  induction n with
  | zero =>
    intro i fu u hi hf hc hr
    obtain ⟨fu, rfl⟩ : ∃ n', fu = n' + 1 := ⟨fu - 1, by omega⟩
    refine ⟨u, ?_, sameR_rf u, ?_⟩
    · unfold L_X12_sheet_40
      rw [d_pits12 hc, bc_eq, if_pos (nI_le (by omega) (by omega))]
    · funext j
      rw [hr j]
      by_cases hj : j < i
      · rw [if_pos hj]; rfl
      · rw [if_neg hj]
        unfold eP
        rw [show shP c told kind f st P j = P j from if_neg (by omega)]
  | succ n ih =>
    intro i fu u hi hf hc hr
    obtain ⟨fu, rfl⟩ : ∃ n', fu = n' + 1 := ⟨fu - 1, by omega⟩
    have s1 : sameR [120] [] [] [] u (wI u 120 i (nI (shP c told kind f st P i))) := sameR_r (by simp) (by decide)
    obtain ⟨u1, g1, g2, g3⟩ := ih (i + 1) fu (wI u 120 i (nI (shP c told kind f st P i))) (by omega) (by omega) (by rw [wI_r (by decide)]; exact hc) (fun j => by
      by_cases e : j = i
      · subst e
        rw [wI_at, if_pos (by omega)]
      · rw [wI_at_ne e, hr j]
        by_cases hj : j < i
        · rw [if_pos hj, if_pos (by omega)]
        · rw [if_neg hj, if_neg (by omega)])
    refine ⟨u1, ?_, sameR_tr s1 g2, g3⟩
    have e0 : shP c told kind f st P i = if i < told then enF kind f st i else 0 := if_pos (by omega)
    have fin : ∀ y : Int32, y = nI (shP c told kind f st P i) → J_X12_sheet_j106_2 (L_X12_sheet_40 kind p2 st k fu) (nI i) (f + nI i * st) st y u = k u1 := by
      intro y hy
      subst hy
      unfold J_X12_sheet_j106_2
      rw [if_pos (ib_nI (by omega) (by decide)), bd_eq, bd_eq, bd_eq, nI_clamp (by omega), nI_1, st_add]
      exact g1
    have mid : ∀ y : Int32, y = kdF kind (f + nI i * st) → J_X12_sheet_j72_3 (L_X12_sheet_40 kind p2 st k fu) (nI i) (f + nI i * st) st kind p2 y u = k u1 := by
      intro y hy
      unfold J_X12_sheet_j72_3 J_X12_sheet_j91_1
      rw [bd_eq, bd_eq]
      rcases hk with ⟨k3, t0⟩ | ⟨k3, t0⟩
      · rw [if_pos k3]
        refine fin 0 ?_
        rw [e0, if_neg (by omega)]
        rfl
      · rw [if_neg k3]
        by_cases c1 : i < told
        · rw [if_pos (by rw [t0]; exact nI_lt c1 (by omega))]
          refine fin _ ?_
          rw [e0, if_pos c1, hy]
          exact (enF_ok kind f st i).2
        · rw [if_neg (by rw [t0]; exact nI_nlt (by omega) (by omega))]
          refine fin 0 ?_
          rw [e0, if_neg c1]
          rfl
    unfold L_X12_sheet_40
    rw [d_pits12 hc, bc_eq, if_neg (nI_ge (by omega) (by omega)), bd_eq]
    unfold kdF at mid
    by_cases h0 : kind = 0
    · rw [if_pos h0] at mid ⊢
      exact mid _ rfl
    · rw [if_neg h0] at mid ⊢
      by_cases h1 : kind = 1
      · rw [if_pos h1] at mid ⊢
        exact mid _ rfl
      · rw [if_neg h1] at mid ⊢
        exact mid _ rfl
end SH
theorem t_sheet (x y f st : Int32) : Two (D_X11_sheet x y f st) (D_X12_sheet x y f st) := by
  intro w c L P hs tx rl cd V kp cl si rw B hBB m ok okr
  have hB := okB_of ok
  have h6 := hB.2.1
  have n3 : (3 : Int32) = nI 3 := by decide +kernel
  have nn12 : (12 : Int32) = nI 12 := n12
  rcases rng_cases x 0 3 (by decide) (by decide) with hx | ⟨kd, -, hkd, rfl⟩
  · refine two_no (-1) hBB m ok okr ?_ (fun u n => ?_)
    · unfold D_X11_sheet
      rw [nI_0] at hx
      by_cases h1 : x < 0
      · rw [if_pos h1]
      · rw [if_neg h1, n3, if_pos (hx.resolve_left h1)]
    · unfold D_X12_sheet
      rw [bd_eq, n3, in_no0 (by decide) hx, bc_eq, if_pos rfl]
  · have hin : ∀ u, D_X12_in (nI kd) 0 3 u = some (1, u) := fun u => by rw [n3, in_yes0 hkd (by decide)]
    have hx0 : ¬ nI kd < 0 := nI_pos (by omega)
    have hx3 : ¬ (3 : Int32) < nI kd := by rw [n3]; exact nI_nlt hkd (by decide)
    by_cases hy : y ≤ 12
    · -- the sheet is laid, if it is told
      have lay : ∀ told : Nat, told ≤ 12 → (kd = 3 ∧ told = 0 ∨ kd ≠ 3 ∧ y = nI told) → (D_X11_sheet (nI kd) y f st w = L_X11_sheet_56 (nI kd) f st (if kd = 3 then 1 else 0) (nI told) (J_X11_sheet_x106_2 (if kd = 3 then 1 else 0)) FU 0 w) → (∀ u, D_X12_sheet (nI kd) y f st u = L_X12_sheet_40 (nI kd) y st (J_X12_sheet_x120_4 (nI kd)) FU f 0 (wI u 119 7 0)) → ∃ (r : Int32) (c' L' : Nat) (P' : Nat → Nat) (hs' : List (Nat → Nat)) (tx' rl' : List Nat) (cd' : List Int32) (V' : (Nat → Int32) → Int32) (kp' : Nat → Option (Nat → Nat)) (cl' si' : List (Int32 × Int32)) (rw' : List Int64), okS c' L' P' hs' tx' kp' cl' si' rw' (B + 108) ∧ okRl rl' cd' V' ∧ (∃ w1, D_X11_sheet (nI kd) y f st w = some (r, w1) ∧ CR w1 c' L' P' hs' tx' cd' kp' cl' si' rw' ∧ onC w w1) ∧ ∀ u, MR u c L P hs tx rl kp cl si rw → cameM B u → ∃ u1, D_X12_sheet (nI kd) y f st u = some (r, u1) ∧ MR u1 c' L' P' hs' tx' rl' kp' cl' si' rw' ∧ onM0 u u1 ∧ cameM (B + 108) u1 := by
        intro told ht hk hC hM
        have hk3 : nI kd = 3 ↔ kd = 3 := by rw [n3]; exact nI_eq (by omega) (by decide)
        have hk' : nI kd = 3 ∧ told = 0 ∨ nI kd ≠ 3 ∧ y = nI told := by
          rcases hk with ⟨a, b⟩ | ⟨a, b⟩
          · exact Or.inl ⟨hk3.mpr a, b⟩
          · exact Or.inr ⟨fun z => a (hk3.mp z), b⟩
        obtain ⟨w1, e1, b1, r1⟩ := c_shloop (told := told) (kind := nI kd) (f := f) (st := st) (P := P) (x12 := if kd = 3 then 1 else 0) (k := J_X11_sheet_x106_2 (if kd = 3 then 1 else 0)) h6 ht (2 * c) 0 FU w (by omega) (by unfold FU; omega) (isAt_c m.1) (fun j => by rw [m.1.2.1, if_neg (by omega)])
        rw [nI_0] at e1
        have hhi : ∀ k, 12 ≤ k → shP c told (nI kd) f st P k = P k := fun k hk => if_neg (by omega)
        have a1 : isAt w1 0 c (shP c told (nI kd) f st P) := by
          refine ⟨?_, r1, ?_⟩
          · rw [b1.1 0 (by decide), m.1.1]
            unfold oP
            rw [hhi 14 (by decide), hhi 15 (by decide)]
          · show w1.1 2 = _
            rw [b1.1 2 (by decide), m.1.2.2]
            funext k
            unfold tP
            by_cases hk2 : k < 2
            · rw [if_pos hk2, if_pos hk2, hhi _ (by omega)]
            · rw [if_neg hk2, if_neg hk2]
        obtain ⟨k1, k2⟩ := CR_n0 m (qC_at (r := 0) (by decide) b1 (by decide) (by decide) ⟨_, _, a1⟩) a1
        refine ⟨if kd = 3 then -3 else nI (sumS (shP c told (nI kd) f st P) 0 (2 * c)), c, L, shP c told (nI kd) f st P, hs, tx, rl, cd, V, kp, cl, si, rw, okS_pos hBB ok (okS_rw ok) (by rw [hhi 14 (by decide)]; exact hB.2.2.2.1) (by have := tot_sh (told := told) (kind := nI kd) (f := f) (st := st) (P := P) h6; have := ok.2.2.2.1.2; omega) ok.2.2.2.2.1.1 (fun Q hQ => Or.inr hQ), okr, ⟨w1, ?_, k1, k2⟩, fun u n hcm => ?_⟩
        · rw [hC, e1]
          unfold J_X11_sheet_x106_2
          by_cases h3 : kd = 3
          · rw [if_pos h3, if_neg (by decide), if_pos h3]
          · rw [if_neg h3, if_pos rfl, if_neg h3, d_inPits a1 h6, bc_eq]
        · obtain ⟨n', on'⟩ := MR_7 n
          obtain ⟨u1, g1, g2, g3⟩ := m_shloop (told := told) (kind := nI kd) (f := f) (st := st) (P := P) (p2 := y) (k := J_X12_sheet_x120_4 (nI kd)) h6 ht hk' (2 * c) 0 FU (wI u 119 7 0) (by omega) (by unfold FU; omega) n'.1 (fun j => by rw [n'.2.2.1.1, if_neg (by omega)]; rfl)
          rw [nI_0, Int32.zero_mul, Int32.add_zero] at g1
          have i1 : isM u1 120 (shP c told (nI kd) f st P) := ⟨g3, fun j hj => by rw [hhi j (by omega)]; exact n'.2.2.1.2 j hj⟩
          obtain ⟨k3, k4⟩ := MR_n0 n' ⟨sameR_sub g2 (by decide) (by simp) (by simp) (by simp), fun z => arrM_same z g2 (by decide)⟩ i1
          refine ⟨u1, ?_, k3, came_on hcm (onM_tr on' k4)⟩
          rw [hM, g1]
          unfold J_X12_sheet_x120_4
          by_cases h3 : kd = 3
          · rw [if_pos (hk3.mpr h3), if_pos h3]
          · rw [if_neg (fun z => h3 (hk3.mp z)), if_neg h3, d_pits12 k3.1, bc_eq, m_inPits g3 h6, bc_eq]
      have hC0 : ∀ r : Option (Int32 × Wd), (if nI kd < 0 then some (-1, w) else if (3 : Int32) < nI kd then some (-1, w) else if y ≤ 12 then r else some (-1, w)) = r := fun r => by rw [if_neg hx0, if_neg hx3, if_pos hy]
      by_cases h3 : kd = 3
      · refine lay 0 (by decide) (Or.inl ⟨h3, rfl⟩) ?_ (fun u => ?_)
        · unfold D_X11_sheet
          rw [hC0, bd_eq, if_pos (by rw [h3]; decide +kernel), if_pos h3]
          unfold J_X11_sheet_j27_5
          rw [bd_eq, if_neg (by decide)]
          unfold J_X11_sheet_j41_4
          rw [bd_eq, if_neg (by decide)]
          unfold J_X11_sheet_j51_3
          rw [nI_0]
        · unfold D_X12_sheet
          rw [bd_eq, hin, bc_eq, if_neg (by decide), if_pos hy, bd_eq, if_pos (by rw [n3]; exact nI_le (by omega) (by omega))]
          rfl
      · have hk3 : ¬ nI kd = 3 := by rw [n3, nI_eq (by omega) (by decide)]; exact h3
        by_cases hy0 : y < 0
        · refine two_no (-2) hBB m ok okr ?_ (fun u n => ?_)
          · unfold D_X11_sheet
            rw [hC0, bd_eq, if_neg hk3]
            unfold J_X11_sheet_j27_5
            rw [bd_eq, if_pos rfl, if_neg (Int32.not_le.mpr hy0)]
          · unfold D_X12_sheet
            rw [bd_eq, hin, bc_eq, if_neg (by decide), if_pos hy, bd_eq, if_neg (by rw [n3]; exact nI_ge (by omega) (by omega)), if_neg (Int32.not_le.mpr hy0)]
        · obtain ⟨told, ht, rfl⟩ := nI_of hy0
          have ht12 : told ≤ 12 := (nI_leI ht (by decide)).mp (by rw [← nn12]; exact hy)
          refine lay told ht12 (Or.inr ⟨h3, rfl⟩) ?_ (fun u => ?_)
          · unfold D_X11_sheet
            rw [hC0, bd_eq, if_neg hk3, if_neg h3]
            unfold J_X11_sheet_j27_5
            rw [bd_eq, if_pos rfl, if_pos (nI_pos' ht)]
            unfold J_X11_sheet_j41_4
            rw [bd_eq, if_pos rfl]
            unfold J_X11_sheet_j51_3
            rfl
          · unfold D_X12_sheet
            rw [bd_eq, hin, bc_eq, if_neg (by decide), if_pos hy, bd_eq, if_neg (by rw [n3]; exact nI_ge (by omega) (by omega)), if_pos (nI_pos' ht)]
            rfl
    · refine two_no (-1) hBB m ok okr ?_ (fun u n => ?_)
      · unfold D_X11_sheet
        rw [if_neg hx0, if_neg hx3, if_neg hy]
      · unfold D_X12_sheet
        rw [bd_eq, hin, bc_eq, if_neg (by decide), if_neg hy]
