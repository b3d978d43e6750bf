/-! board() of both -/
def bdP (tx : List Nat) (c : Nat) : Nat → Nat := fun k => if k < 2 * c then tx.getD (k + 1) 300 - 48 else 0
theorem sumS_le9 {S : Nat → Nat} {b : Nat} : ∀ n, (∀ i, i < n → S (b + i) ≤ 9) → sumS S b n ≤ 9 * n := by
  intro n
  induction n with
  | zero => intro _; exact Nat.le_refl _
  | succ n ih =>
    intro h
    show sumS S b n + S (b + n) ≤ 9 * (n + 1)
    have := ih (fun i hi => h i (by omega))
    have := h n (by omega)
    omega
theorem tot9 {P : Nat → Nat} (h : ∀ i, i < 12 → P i ≤ 9) (h12 : P 12 = 0) (h13 : P 13 = 0) : tot P ≤ 108 := by
  have e : tot P = sumS P 0 12 + P (0 + 12) + P (0 + 13) := rfl
  have := sumS_le9 (S := P) (b := 0) 12 (fun i hi => by rw [Nat.zero_add]; exact h i hi)
  rw [Nat.zero_add, Nat.zero_add] at e
  omega
section SB
variable {w u : Wd} {tx : List Nat} {c : Nat}
theorem c_sbloop {k : Wd → Option Wd} (hl : tx.length ≤ 80) (hx : ∀ x ∈ tx, x < 256) (h6 : c ≤ 6) (hd : ∀ j, j < 2 * c → 48 ≤ tx.getD (j + 1) 300 ∧ tx.getD (j + 1) 300 < 58) : ∀ (n i fu : Nat) (w : Wd), n + i = 12 → n < fu → textC w tx → w.1 0 2 = nI c → (∀ j, j < i → w.1 1 j = nI (bdP tx c j)) → ∃ w1, L_X11_setBoard_17 k fu (nI i) w = k w1 ∧ but [1] w w1 ∧ (∀ j, j < 12 → w1.1 1 j = nI (bdP tx c j)) ∧ ∀ j, 12 ≤ j → w1.1 1 j = w.1 1 j := by
  intro n
  induction n with
  | zero =>
    intro i fu w hi hf ht hc hr
    obtain ⟨fu, rfl⟩ : ∃ n', fu = n' + 1 := ⟨fu - 1, by omega⟩
    refine ⟨w, ?_, but_rf w, fun j hj => hr j (by omega), fun _ _ => rfl⟩
    unfold L_X11_setBoard_17
    rw [n12, if_pos (nI_le (by omega) (by omega))]
  | succ n ih =>
    intro i fu w hi hf ht hc hr
    obtain ⟨fu, rfl⟩ : ∃ n', fu = n' + 1 := ⟨fu - 1, by omega⟩
    have b1 : but [1] w (wI w 1 i (nI (bdP tx c i))) := but_wI (by simp)
    obtain ⟨w1, g1, g2, g3, g4⟩ := ih (i + 1) fu (wI w 1 i (nI (bdP tx c i))) (by omega) (by omega) ⟨by rw [wI_r (by decide)]; exact ht.1, fun j x hj => by rw [wI_r (by decide)]; exact ht.2 j x hj⟩ (by rw [wI_r (by decide)]; exact hc) (fun j hj => by
      by_cases e : j = i
      · subst e; exact wI_at
      · rw [wI_at_ne e]; exact hr j (by omega))
    refine ⟨w1, ?_, but_tr b1 g2, g3, fun j hj => by rw [g4 j hj, wI_at_ne (by omega)]⟩
    unfold L_X11_setBoard_17 D_X5_pits
    rw [n12, if_neg (nI_ge (by omega) (by omega)), hc, nI_2', pk_mul, bc_eq, bd_eq]
    by_cases c1 : 2 * c ≤ i
    · have e : bdP tx c i = 0 := if_neg (by omega)
      rw [if_pos (nI_le c1 (by omega))]
      unfold J_X11_setBoard_j56_1
      rw [if_pos (ib_nI (by omega) (by decide)), bd_eq, bd_eq, nI_clamp (by omega), nI_1, nI_0', ← e]
      exact g1
    · have e : bdP tx c i = tx.getD (i + 1) 300 - 48 := if_pos (by omega)
      rw [if_neg (nI_ge (by omega) (by omega)), nI_1', nI_add, c_digitAt ht hl hx (by omega), bc_eq, Nat.add_comm 1 i, if_pos (hd i (by omega))]
      unfold J_X11_setBoard_j56_1
      rw [if_pos (ib_nI (by omega) (by decide)), bd_eq, bd_eq, nI_clamp (by omega), nI_1, ← e]
      exact g1
theorem c_setB (ht : textC w tx) (hl : tx.length ≤ 80) (hx : ∀ x ∈ tx, x < 256) (h6 : c ≤ 6) (h0 : 48 ≤ tx.getD 0 300 ∧ tx.getD 0 300 < 58) (hc : c = tx.getD 0 300 - 48) (hd : ∀ j, j < 2 * c → 48 ≤ tx.getD (j + 1) 300 ∧ tx.getD (j + 1) 300 < 58) {c0 : Nat} {P0 : Nat → Nat} (hat : isAt w 0 c0 P0) : ∃ w1, D_X11_setBoard w = some w1 ∧ isAt w1 0 c (bdP tx c) ∧ but [0, 1, 2, 77, 78] w w1 ∧ w1.1 78 2 = 0 ∧ w1.1 78 1 = w.1 78 1 ∧ (∀ i, i < 2 → w1.1 77 i = 0) := by
  have hP : ∀ k, 12 ≤ k → bdP tx c k = 0 := fun k hk => if_neg (by omega)
  have h0' := c_digitAt (i := 0) ht hl hx (by decide)
  rw [nI_0, if_pos h0, ← hc] at h0'
  have b0 : but [0] w (wI w 0 2 (nI c)) := but_wI (by simp)
  obtain ⟨w1, e1, b1, r1, r1'⟩ := c_sbloop (k := J_X11_setBoard_x63_3) hl hx h6 hd 12 0 FU (wI w 0 2 (nI c)) (by decide) (by unfold FU; omega) ⟨by rw [wI_r (by decide)]; exact ht.1, fun j x hj => by rw [wI_r (by decide)]; exact ht.2 j x hj⟩ wI_at (fun j hj => absurd hj (by omega))
  rw [nI_0] at e1
  have z0 : (0 : Int32).toNatClampNeg = 0 := by decide
  have z1 : (1 : Int32).toNatClampNeg = 1 := by decide
  have e2 : ∀ v : Wd, J_X11_setBoard_x63_3 v = some (wI (wI (wI (wI (wI (wI (wI v 2 0 0) 2 1 0) 0 3 0) 0 4 0) 78 2 0) 77 0 0) 77 1 0) := by
    intro v
    unfold J_X11_setBoard_x63_3 D_X0_clear
    rw [if_pos (by decide), bd_eq, if_pos (by decide), bd_eq, bd_eq, bd_eq, bd_eq, bv_eq, z0, z1, show FU = 999997 + 1 + 1 + 1 from rfl]
    unfold L_X11_setBoard_108
    rw [if_neg (by decide), if_pos (by decide), bd_eq, bd_eq, z0]
    unfold L_X11_setBoard_108
    rw [if_neg (by decide), if_pos (by decide), bd_eq, bd_eq, show ((0 : Int32) + 1).toNatClampNeg = 1 from by decide]
    unfold L_X11_setBoard_108
    rw [if_pos (by decide)]
    rfl
  generalize hw2 : wI (wI (wI (wI (wI (wI (wI w1 2 0 0) 2 1 0) 0 3 0) 0 4 0) 78 2 0) 77 0 0) 77 1 0 = w2
  have b2 : but [0, 2, 77, 78] w1 w2 := by
    rw [← hw2]
    exact but_tr (but_tr (but_tr (but_tr (but_tr (but_tr (but_wI (by simp)) (but_wI (by simp))) (but_wI (by simp))) (but_wI (by simp))) (but_wI (by simp))) (but_wI (by simp))) (but_wI (by simp))
  have b3 : but [0, 1, 2, 77, 78] w w2 := but_tr (but_sub b0 (by decide)) (but_tr (but_sub b1 (by decide)) (but_sub b2 (by decide)))
  refine ⟨w2, ?_, ⟨?_, ?_, ?_⟩, b3, ?_, ?_, fun i hi => ?_⟩
  · unfold D_X11_setBoard
    rw [h0', bc_eq, bd_eq, e1, e2, hw2]
  · funext k
    rw [← hw2, wI_r (by decide), wI_r (by decide), wI_r (by decide)]
    unfold oP
    rw [hP 14 (by decide), hP 15 (by decide)]
    by_cases k4 : k = 4
    · subst k4; rw [wI_at]; rfl
    · rw [wI_at_ne k4]
      by_cases k3 : k = 3
      · subst k3; rw [wI_at]; rfl
      · rw [wI_at_ne k3, wI_r (by decide), wI_r (by decide), b1.1 0 (by decide)]
        by_cases k2 : k = 2
        · subst k2; rw [wI_at]; rfl
        · rw [wI_at_ne k2, hat.1]
          unfold oP
          rw [if_neg k2, if_neg k3, if_neg k4, if_neg k2, if_neg k3, if_neg k4]
  · funext k
    show w2.1 1 k = _
    rw [b2.1 1 (by decide)]
    unfold sP
    by_cases hk : k < 12
    · rw [if_pos hk, r1 k hk]
    · rw [if_neg hk, r1' k (by omega), wI_r (by decide), hat.2.1]
      unfold sP
      rw [if_neg hk]
  · funext k
    show w2.1 2 k = _
    rw [← hw2, wI_r (by decide), wI_r (by decide), wI_r (by decide), wI_r (by decide), wI_r (by decide)]
    unfold tP
    by_cases k1 : k = 1
    · subst k1
      rw [wI_at, if_pos (by decide), hP _ (by decide)]
      rfl
    · rw [wI_at_ne k1]
      by_cases k0 : k = 0
      · subst k0
        rw [wI_at, if_pos (by decide), hP _ (by decide)]
        rfl
      · rw [wI_at_ne k0, b1.1 2 (by decide), wI_r (by decide), hat.2.2]
        unfold tP
        rw [if_neg (by omega), if_neg (by omega)]
  · rw [← hw2, wI_r (by decide), wI_r (by decide), wI_at]
  · rw [← hw2, wI_r (by decide), wI_r (by decide), wI_at_ne (by decide), wI_r (by decide), wI_r (by decide), wI_r (by decide), wI_r (by decide), b1.1 78 (by decide), wI_r (by decide)]
  · rw [← hw2]
    rcases (by omega : i = 0 ∨ i = 1) with e | e <;> subst e
    · rw [wI_at_ne (by decide), wI_at]
    · rw [wI_at]
theorem m_b80 {k : Wd → Option (Int32 × Wd)} {P0 : Nat → Nat} (h6 : c ≤ 6) (hP0 : ∀ j, 16 ≤ j → P0 j = 0) : ∀ (n i fu : Nat) (u : Wd), n + i = 16 → n < fu → (∀ j, j < 2 * c → u.1 123 j = nI (tx.getD (j + 1) 300 - 48)) → (∀ j, u.1 120 j = if j < i then nI (bdP tx c j) else nI (P0 j)) → ∃ u1, L_X12_board_80 (nI c) k fu (nI i) u = k u1 ∧ sameR [120] [] [] [] u u1 ∧ isM u1 120 (bdP tx c) := by
  intro n
  induction n with
  | zero =>
    intro i fu u hi hf ht hr
    obtain ⟨fu, rfl⟩ : ∃ n', fu = n' + 1 := ⟨fu - 1, by omega⟩
    refine ⟨u, ?_, sameR_rf u, ?_, fun j hj => if_neg (by omega)⟩
    · unfold L_X12_board_80
      rw [n16, if_pos (nI_le (by omega) (by omega))]
    · funext j
      rw [hr j]
      unfold eP
      by_cases hj : j < i
      · rw [if_pos hj]
      · rw [if_neg hj, hP0 j (by omega), show bdP tx c j = 0 from if_neg (by omega)]
  | succ n ih =>
    intro i fu u hi hf ht hr
    obtain ⟨fu, rfl⟩ : ∃ n', fu = n' + 1 := ⟨fu - 1, by omega⟩
    have s1 : sameR [120] [] [] [] u (wI u 120 i (nI (bdP tx c i))) := sameR_r (by simp) (by decide)
    obtain ⟨u1, g1, g2, g3⟩ := ih (i + 1) fu (wI u 120 i (nI (bdP tx c i))) (by omega) (by omega) (fun j hj => by rw [wI_r (by decide)]; exact ht j hj) (fun j => by
      by_cases e : j = i
      · subst e; rw [wI_at, if_pos (by omega)]
      · rw [wI_at_ne e, hr j]
        by_cases hj : j < i
        · rw [if_pos hj, if_pos (by omega)]
        · rw [if_neg hj, if_neg (by omega)])
    refine ⟨u1, ?_, sameR_tr s1 g2, g3⟩
    unfold L_X12_board_80
    rw [n16, if_neg (nI_ge (by omega) (by omega)), bd_eq, nI_2', pk_mul]
    unfold J_X12_board_j108_1
    by_cases c1 : 2 * c ≤ i
    · have e : bdP tx c i = 0 := if_neg (by omega)
      rw [if_pos (nI_le c1 (by omega)), if_pos (ib_nI (by omega) (by decide)), bd_eq, bd_eq, nI_clamp (by omega), nI_1, nI_0', ← e]
      exact g1
    · have e : bdP tx c i = tx.getD (i + 1) 300 - 48 := if_pos (by omega)
      rw [if_neg (nI_ge (by omega) (by omega)), if_pos (ib_nI (by omega) (by decide)), if_pos (ib_nI (by omega) (by decide)), bd_eq, bd_eq, nI_clamp (by omega), nI_1, ht i (by omega), ← e]
      exact g1
theorem m_b117 {k : Int32 → Wd → Option (Int32 × Wd)} (h6 : c ≤ 6) {u : Wd} (ht : ∀ j, j < 2 * c → u.1 123 j = nI (tx.getD (j + 1) 300 - 48)) : ∀ (n i fu : Nat), n + i = 2 * c → n < fu → L_X12_board_117 (nI c) k fu (nI (sumS (bdP tx c) 0 i)) (nI i) u = k (nI (sumS (bdP tx c) 0 (2 * c))) u := by
  intro n
  induction n with
  | zero =>
    intro i fu hi hf
    obtain ⟨fu, rfl⟩ : ∃ n', fu = n' + 1 := ⟨fu - 1, by omega⟩
    unfold L_X12_board_117
    rw [nI_2', pk_mul, if_pos (nI_le (by omega) (by omega)), show i = 2 * c by omega]
  | succ n ih =>
    intro i fu hi hf
    obtain ⟨fu, rfl⟩ : ∃ n', fu = n' + 1 := ⟨fu - 1, by omega⟩
    have e : bdP tx c (0 + i) = tx.getD (i + 1) 300 - 48 := by rw [Nat.zero_add]; exact if_pos (by omega)
    unfold L_X12_board_117
    rw [nI_2', pk_mul, if_neg (nI_ge (by omega) (by omega)), if_pos (ib_nI (by omega) (by decide)), bd_eq, bd_eq, nI_clamp (by omega), ht i (by omega), nI_add, nI_1, ← e]
    exact ih (i + 1) fu (by omega) (by omega)
end SB
theorem bdS_none {tx : List Nat} (h : bdS tx = none) : (50 ≤ tx.getD 0 300 ∧ tx.getD 0 300 < 55) ∧ bdW tx (2 * (tx.getD 0 300 - 48)) 1 = none ∧ tx.length ≤ 1 + 2 * (tx.getD 0 300 - 48) := by
  unfold bdS at h
  split at h
  · rename_i h0
    cases hb : bdW tx (2 * (tx.getD 0 300 - 48)) 1 with
    | some i => rw [hb] at h; cases h
    | none =>
      rw [hb] at h
      simp only at h
      split at h
      · rename_i h1
        exact ⟨h0, rfl, h1⟩
      · cases h
  · cases h
section BB
theorem m_board {u : Wd} {tx : List Nat} (v : textM u tx) (hl : tx.length ≤ 80) (hx : ∀ x ∈ tx, x < 256) : (∀ j, bdS tx = some j → ∃ u1, D_X12_board u = some (-1 - nI j, u1) ∧ sameR [121, 123] [4, 7, 9, 10, 11, 12] [] [0] u u1 ∧ textM u1 []) ∧ (bdS tx = none → ∃ u1, sameR [121, 123] [4, 7, 9, 10, 11, 12] [] [0] u u1 ∧ textM u1 [] ∧ (∀ j, j < 2 * (tx.getD 0 300 - 48) → u1.1 123 j = nI (tx.getD (j + 1) 300 - 48)) ∧ D_X12_board u = bd (wI u1 119 1 (nI (tx.getD 0 300 - 48))) fun w20 => L_X12_board_80 (nI (tx.getD 0 300 - 48)) (J_X12_board_x115_3 (nI (tx.getD 0 300 - 48))) FU 0 w20) := by
  obtain ⟨u1, e1, H1, a1, f1, t1, s1⟩ := begin_T (u := wI u 119 7 0) (T := 13) ⟨by rw [wI_at_ne (by decide)]; exact v.1, fun i x hi => by rw [wI_r (by decide)]; exact v.2 i x hi⟩ hl hx (by decide)
  have s0 : sameR [121, 123] [4, 7, 9, 10, 11, 12] [] [0] u u1 := sameR_tr (sameR_f (k := 7) (v := 0) (by simp)) (sameR_sub s1 (by simp) (by decide) (by simp) (by simp))
  have ho := oneOf_T H1 a1 f1 (by decide) (a := 50) (m := 5) (by decide) (by decide) (by decide)
  have e13 : cT 13 tx 0 = tx.getD 0 300 := if_pos (by decide)
  rw [e13] at ho
  have h50 : (50 : Int32) = nI 50 := by decide +kernel
  have h5 : (5 : Int32) = nI 5 := by decide +kernel
  have h13 : (13 : Int32) = nI 13 := by decide +kernel
  have tkeep : ∀ {u2 : Wd} {E F : List Nat}, sameR E F [] [] u1 u2 → 121 ∉ E → 4 ∉ F → textM u2 [] := fun s h0 h1 => textM_same t1 s h0 h1
  by_cases c0 : 50 ≤ tx.getD 0 300 ∧ tx.getD 0 300 < 50 + 5
  · rw [if_pos c0] at ho
    have H2 : rdT (wI u1 119 11 (nI (0 + 1))) 13 tx := rdT_same (E := []) (F := [11]) (Z := []) H1 (sameR_f (by simp)) (by simp) (by decide) (by decide) (by simp)
    obtain ⟨u2, g1, g2, g3, g4⟩ := m_bdloop (c := tx.getD 0 300 - 48) (k := J_X12_board_x57_4 (nI (tx.getD 0 300 - 48))) (by omega) (2 * (tx.getD 0 300 - 48)) 0 FU _ (by omega) (by unfold FU; omega) H2 wI_at (by rw [wI_at_ne (by decide)]; exact f1) (fun j hj => absurd hj (by omega))
    have s2 : sameR [121, 123] [4, 7, 9, 10, 11, 12] [] [0] u u2 := sameR_tr s0 (sameR_tr (sameR_f (by simp)) (sameR_sub g2 (by decide) (by decide) (by simp) (by simp)))
    have t2 : textM u2 [] := textM_same (textM_same (E := []) (F := [11]) (T := []) (Z := []) t1 (sameR_f (by simp)) (by simp) (by decide)) g2 (by decide) (by decide)
    have H3 : rdT u2 13 tx := rdT_same H2 g2 (by decide) (by decide) (by decide) (by simp)
    have hd : D_X12_board u = J_X12_board_x57_4 (nI (tx.getD 0 300 - 48)) u2 := by
      unfold D_X12_board
      rw [bd_eq, h13, e1, bv_eq, h50, h5, ho, bc_eq, bd_eq, nI_2', nI_add, show tx.getD 0 300 - 50 + 2 = tx.getD 0 300 - 48 by omega]
      rw [nI_0] at g1
      exact g1
    cases hb : bdW tx (2 * (tx.getD 0 300 - 48)) 1 with
    | some i =>
      obtain ⟨k1, k2⟩ := g4 i hb
      have hi := bdW_some _ _ _ hb
      have e : bdS tx = some i := by
        unfold bdS
        rw [if_pos (by omega), hb]
      refine ⟨fun j hj => ?_, fun hn => by rw [e] at hn; cases hn⟩
      rw [e] at hj
      cases hj
      refine ⟨u2, ?_, s2, t2⟩
      rw [hd]
      unfold J_X12_board_x57_4
      rw [(right_T H3 k1 (by omega)).2.2 i (by omega) k2, bc_eq, if_pos rfl, k2]
    | none =>
      obtain ⟨k1, k2, k3⟩ := g3 hb
      by_cases hlen : tx.length ≤ 1 + 2 * (tx.getD 0 300 - 48)
      · have e : bdS tx = none := by
          unfold bdS
          rw [if_pos (by omega), hb]
          simp only [if_pos hlen]
        refine ⟨fun j hj => by (rw [e] at hj; cases hj), fun _ => ⟨u2, s2, t2, k3, ?_⟩⟩
        rw [hd]
        unfold J_X12_board_x57_4
        rw [(right_T H3 k1 (by omega)).1 k2 (by omega), bc_eq, if_neg (by decide)]
      · have e : bdS tx = some (1 + 2 * (tx.getD 0 300 - 48)) := by
          unfold bdS
          rw [if_pos (by omega), hb]
          simp only [if_neg hlen]
        refine ⟨fun j hj => ?_, fun hn => by rw [e] at hn; cases hn⟩
        rw [e] at hj
        cases hj
        refine ⟨_, ?_, sameR_tr s2 (sameR_f (k := 12) (v := nI (2 * (tx.getD 0 300 - 48) + 1)) (by simp)), textM_same (E := []) (F := [12]) (T := []) (Z := []) t2 (sameR_f (by simp)) (by simp) (by decide)⟩
        rw [hd]
        unfold J_X12_board_x57_4
        rw [(right_T H3 k1 (by omega)).2.1 k2 (by omega), bc_eq, if_pos rfl, wI_at, Nat.add_comm 1]
  · rw [if_neg c0] at ho
    have e : bdS tx = some 0 := if_neg (by omega)
    have f12 : (wI u1 119 12 (nI 0)).1 119 12 = nI 0 := wI_at
    have H2 : rdT (wI u1 119 12 (nI 0)) 13 tx := rdT_same (E := []) (F := [12]) (Z := []) H1 (sameR_f (by simp)) (by simp) (by decide) (by decide) (by simp)
    refine ⟨fun j hj => ?_, fun hn => by rw [e] at hn; cases hn⟩
    rw [e] at hj
    cases hj
    refine ⟨_, ?_, sameR_tr s0 (sameR_f (k := 12) (v := nI 0) (by simp)), textM_same (E := []) (F := [12]) (T := []) (Z := []) t1 (sameR_f (by simp)) (by simp) (by decide)⟩
    unfold D_X12_board
    rw [bd_eq, h13, e1, bv_eq, h50, h5, ho, bc_eq, bd_eq, show FU = 999999 + 1 from rfl]
    unfold L_X12_board_23
    rw [fine_n f12 (by decide), bc_eq, if_neg (show ¬ (2 : Int32) * (0 + 2) ≤ 0 by decide), if_pos rfl]
    unfold J_X12_board_x57_4
    rw [(right_T H2 (by rw [wI_at_ne (by decide)]; exact a1) (by decide)).2.2 0 (by decide) f12, bc_eq, if_pos rfl, f12]
theorem t_board : Two D_X11_board D_X12_board := by
  intro w c L P hs tx rl cd V kp cl si rw B hBB m ok okr
  obtain ⟨hl, hx⟩ := ok.2.2.2.2.2.1
  have ht := m.2.2.2.2.1
  have hw := c_wrongB ht hl hx
  cases hb : bdS tx with
  | some j =>
    rw [hb] at hw
    have hj := bdS_le hb
    have t1 : textC (wI w 80 1 0) [] := ⟨by rw [wI_at]; rfl, fun i x h => by simp at h⟩
    obtain ⟨k1, k2⟩ := CR_text m (same_wI (by simp)) t1
    refine ⟨-1 - nI j, c, L, P, hs, [], rl, cd, V, kp, cl, si, rw, okS_text hBB ok (by simp) (by simp), okr, ⟨_, ?_, k1, k2⟩, fun u n hcm => ?_⟩
    · unfold D_X11_board
      rw [hw, bc_eq, bd_eq, if_neg (nI_nm (by omega))]
      unfold J_X11_board_j14_1 D_X9_clear
      rw [bd_eq, bv_eq, if_neg (nI_nm (by omega))]
    · obtain ⟨u1, g1, g2, g3⟩ := (m_board n.2.2.2.2.1 hl hx).1 j hb
      obtain ⟨k3, k4⟩ := MR_text n g2 g3
      exact ⟨u1, g1, k3, came_on hcm k4⟩
  | none =>
    rw [hb] at hw
    obtain ⟨h0, h1, h2⟩ := bdS_none hb
    have hdig := bdW_none _ _ h1
    generalize hc : tx.getD 0 300 - 48 = c' at *
    have hd : ∀ j, j < 2 * c' → 48 ≤ tx.getD (j + 1) 300 ∧ tx.getD (j + 1) 300 < 58 := fun j hj => hdig (j + 1) (by omega) (by omega)
    obtain ⟨w1, e1, a1, b1, z1, z2, z3⟩ := c_setB (c := c') ht hl hx (by omega) (by omega) hc.symm hd m.1
    have b2 : but [0, 1, 2, 77, 78, 80] w (wI w1 80 1 0) := but_tr (but_sub b1 (by decide)) (but_wI (by simp))
    have s2 : same [0, 1, 2, 77, 78, 80] [] w (wI w1 80 1 0) := same_but b2
    have a2 : isAt (wI w1 80 1 0) 0 c' (bdP tx c') := isAt_wI (by decide) a1
    obtain ⟨m1, m2, m3, m4, m5, m6, m7, m8, m9, m10, m11⟩ := m
    have k1 : CR (wI w1 80 1 0) c' L (bdP tx c') [] [] cd (fun _ => none) cl si rw := by
      refine ⟨a2, by rw [s2.1 75 (by decide)]; exact m2, ?_, ?_, ⟨by rw [wI_at]; rfl, fun i x h => by simp at h⟩, rowC_same m6 s2 (by decide) (by decide), fun i hi => ⟨?_, fun Q hQ => by cases hQ⟩, noteC_same m8 s2 (by decide) (by decide) (by decide), noteC_same m9 s2 (by decide) (by decide) (by decide), ruleC_same m10 s2 (by decide) (by decide), greedC_same m11 s2 (by decide) (by decide)⟩
      · exact posC_at (r := 0) (by decide) s2 (by decide) ⟨_, _, a2⟩ m3
      · obtain ⟨nx, x1, x2, x3, x4, x5⟩ := m4
        refine ⟨nx, x1, by simp, by rw [wI_r (by decide), z2]; exact x3, by rw [wI_r (by decide), z1]; rfl, fun i R hi => by simp at hi⟩
      · rw [wI_r (by decide), z3 i hi]
        rfl
    have hP9 : tot (bdP tx c') ≤ 108 := tot9 (fun i hi => by
      unfold bdP
      by_cases h : i < 2 * c'
      · rw [if_pos h]; have := hd i h; omega
      · rw [if_neg h]; omega) (if_neg (by omega)) (if_neg (by omega))
    have ok' : okS c' L (bdP tx c') [] [] (fun _ => none) cl si rw (B + 108) := by
      obtain ⟨o1, o2, o3, o4, o5, o6, o7, o8, o9, o10, o11⟩ := ok
      exact ⟨by omega, by omega, o3, ⟨by rw [show bdP tx c' 14 = 0 from if_neg (by omega)]; omega, by omega⟩, ⟨by simp, fun Q hQ => by simp at hQ⟩, ⟨by simp, fun x hx => by simp at hx⟩, fun i Q hi hQ => by (cases hQ), o8, o9, o10, by omega⟩
    refine ⟨nI (sumS (bdP tx c') 0 (2 * c')), c', L, bdP tx c', [], [], rl, cd, V, fun _ => none, cl, si, rw, ok', okr, ⟨_, ?_, k1, onC_same s2 (by decide) (by simp)⟩, fun u n hcm => ?_⟩
    · unfold D_X11_board
      rw [hw, bc_eq, bd_eq, if_pos rfl, e1, bv_eq]
      unfold J_X11_board_j14_1 D_X9_clear
      rw [bd_eq, bv_eq, if_pos rfl, d_inPits a2 (by omega), bc_eq]
    · obtain ⟨u1, g1, g2, g3, g4⟩ := (m_board n.2.2.2.2.1 hl hx).2 hb
      rw [hc] at g3 g4
      obtain ⟨cm, hcm1, hcm2⟩ := hcm
      obtain ⟨u2, q1, q2, q3⟩ := m_b80 (tx := tx) (c := c') (P0 := P) (k := J_X12_board_x115_3 (nI c')) (by omega) n.2.2.1.2 16 0 FU (wI u1 119 1 (nI c')) (by decide) (by unfold FU; omega) (fun j hj => by rw [wI_r (by decide)]; exact g3 j hj) (fun j => by rw [wI_r (by decide), g1.1 120 (by decide) (by decide), n.2.2.1.1, if_neg (by omega)]; rfl)
      have q4 : ∀ j, j < 2 * c' → u2.1 123 j = nI (tx.getD (j + 1) 300 - 48) := fun j hj => by rw [q2.1 123 (by decide) (by decide), wI_r (by decide)]; exact g3 j hj
      have q5 := m_b117 (tx := tx) (c := c') (u := u2) (k := J_X12_board_x139_2) (by omega) q4 (2 * c') 0 FU (by omega) (by unfold FU; omega)
      rw [nI_0, show sumS (bdP tx c') 0 0 = 0 from rfl, nI_0] at q5
      have sU : sameR [120, 121, 123] [1, 4, 7, 9, 10, 11, 12, 23, 51] [] [0] u (wI (wI u2 119 23 0) 119 51 ((wI u2 119 23 0).1 119 51 + 1)) := sameR_tr (sameR_sub g1 (by decide) (by decide) (by simp) (by simp)) (sameR_tr (sameR_f (by simp)) (sameR_tr (sameR_sub q2 (by decide) (by simp) (by simp) (by simp)) (sameR_tr (sameR_f (by simp)) (sameR_f (by simp)))))
      have f51 : u2.1 119 51 = nI cm := by rw [q2.2.1 51 (by simp), wI_at_ne (by decide), g1.2.1 51 (by decide)]; exact hcm2
      generalize hu3 : wI (wI u2 119 23 0) 119 51 ((wI u2 119 23 0).1 119 51 + 1) = u3 at sU
      have g51 : u3.1 119 51 = nI (cm + 1) := by rw [← hu3, wI_at, wI_at_ne (by decide), f51, nI_1]
      have f1 : u3.1 119 1 = nI c' := by rw [← hu3, wI_at_ne (by decide), wI_at_ne (by decide), q2.2.1 1 (by simp), wI_at]
      have tu : textM u3 [] := by
        have a0 : textM u2 [] := textM_same (textM_same (E := []) (F := [1]) (T := []) (Z := []) g2 (sameR_f (by simp)) (by simp) (by decide)) q2 (by decide) (by simp)
        rw [← hu3]
        exact textM_same (E := []) (F := [23, 51]) (T := []) (Z := []) a0 (sameR_tr (sameR_f (by simp)) (sameR_f (by simp))) (by simp) (by decide)
      have iu : isM u3 120 (bdP tx c') := by
        rw [← hu3]
        exact isM_same (E := []) (F := [23, 51]) (T := []) (Z := []) q3 (sameR_tr (sameR_f (by simp)) (sameR_f (by simp))) (by simp) (by decide)
      obtain ⟨n1, n2, n3, n4, n5, n6, n7, n8, n9, n10, n11⟩ := n
      have k3 : MR u3 c' L (bdP tx c') [] [] rl (fun _ => none) cl si rw := by
        refine ⟨f1, (sU.2.1 2 (by decide)).trans n2, iu, ⟨by rw [← hu3, wI_at_ne (by decide), wI_at]; rfl, fun i R hi => by simp at hi⟩, tu, rowM_same n6 sU (by decide) (by decide), ?_, heardM_same n8 sU (by decide) (by decide) (by decide), sawM_same n9 sU (by decide) (by decide) (by decide), ruleM_same n10 sU (by decide) (by decide) (by decide) (by decide) (by decide), arrM_same n11 sU (by decide)⟩
        obtain ⟨cm', c1, c2, c3⟩ := n7
        have ecm : cm' = cm := by
          rw [c2] at hcm2
          exact (nI_eq (by omega) (by omega)).mp hcm2
        subst ecm
        refine ⟨cm' + 1, by omega, g51, fun i hi => ?_⟩
        obtain ⟨kc, d1, d2, d3, d4, d5⟩ := c3 i hi
        refine ⟨kc, by omega, by rw [sU.1 160 (by decide) (by decide)]; exact d2, by rw [sU.1 159 (by decide) (by decide)]; exact d3, ⟨fun h => by (cases h), fun h => by have := h.2; omega⟩, fun Q hQ => by cases hQ⟩
      refine ⟨u3, ?_, k3, ⟨fun a ha => sU.1 a (fun z => by simp only [List.mem_cons, List.not_mem_nil, or_false] at z; omega) (by omega), fun a ha => sU.2.2.1 a (by simp)⟩, cm + 1, by omega, g51⟩
      rw [g4, bd_eq, ← nI_0, q1]
      unfold J_X12_board_x115_3
      rw [q5]
      unfold J_X12_board_x139_2
      rw [bd_eq, bd_eq, hu3]
end BB
