/-! luck: the class -/
def fmT (c L : Nat) (P0 : Nat → Nat) (r : List Nat) : Nat := max 1 (fulC (psT c L P0 r) (psT c L P0 r 14 * c) c)
def wgT (c L : Nat) (P0 : Nat → Nat) : List Nat → Nat
  | [] => 1
  | _ :: r => wgT c L P0 r * (60 / fmT c L P0 r)
abbrev leT (c L : Nat) (P0 : Nat → Nat) (D x : Nat) (r : List Nat) : Prop := (r.length = D ∨ overS c (psT c L P0 r) = true) ∧ x ≤ psT c L P0 r 12
def stU (c L : Nat) (P0 : Nat → Nat) (D x : Nat) (t : Nat) (r : List Nat) : Nat := t + (if leT c L P0 D x r then wgT c L P0 r * 60 ^ (4 - r.length) else 0)
section LU
variable {w w1 u : Wd} {c L D x : Nat} {P0 : Nat → Nat}
theorem fm_in (hB : okB c L (P0 14) P0) (r : List Nat) : 1 ≤ fmT c L P0 r ∧ fmT c L P0 r ≤ 6 := by
  have h1 := fulC_em (P := psT c L P0 r) (b := psT c L P0 r 14 * c) c
  have := hB.2.1
  unfold fmT
  omega
theorem div60 : ∀ f, f ≤ 6 → 1 ≤ f → ∀ a, 60 * a / f = a * (60 / f) := by
  intro f h1 h2 a
  rcases (by omega : f = 1 ∨ f = 2 ∨ f = 3 ∨ f = 4 ∨ f = 5 ∨ f = 6) with e | e | e | e | e | e <;> subst e <;> omega
theorem wg_le (hB : okB c L (P0 14) P0) : ∀ r : List Nat, wgT c L P0 r ≤ 60 ^ r.length := by
  intro r
  induction r with
  | nil => exact Nat.le_refl _
  | cons p r ih =>
    show wgT c L P0 r * (60 / fmT c L P0 r) ≤ 60 ^ (r.length + 1)
    rw [Nat.pow_succ]
    exact Nat.mul_le_mul ih (Nat.div_le_self _ _)
theorem c_share {ot : Bool} {M : Nat} {k1 : Int64 → Wd → Option (Int64 × Wd)} {N : Nat} (hB : okB c L (P0 14) P0) (h5 : w.1 87 5 = nI N) (hN : N ≤ 4) : ∀ (r : List Nat) (fu : Nat), r.length ≤ N → okT c r → trT w c L P0 r → L_X10_share_6 k1 (fu + r.length) (lN 12960000) (nI 0) w = L_X10_share_6 k1 fu (lN (wgT c L P0 r * 60 ^ (4 - r.length))) (nI r.length) w := by
  intro r
  induction r with
  | nil =>
    intro fu _ _ _
    have e : wgT c L P0 [] * 60 ^ (4 - ([] : List Nat).length) = 12960000 := by
      show 1 * 60 ^ 4 = 12960000
      decide
    rw [e]
    rfl
  | cons p r ih =>
    intro fu hl ok ht
    have hl2 : (p :: r).length = r.length + 1 := rfl
    obtain ⟨ok1, hp, -⟩ := okT_tl ok
    have hP := (psT_ok (L := L) hB r ok1).1
    have top := trT_top r ht.2.2
    obtain ⟨f1, f6⟩ := fm_in hB r
    have hw := wg_le hB r
    have h60 : (60 : Nat) ^ r.length * 60 ^ (4 - r.length) = 60 ^ 4 := by rw [← Nat.pow_add, show r.length + (4 - r.length) = 4 by omega]
    have hb : wgT c L P0 r * 60 ^ (4 - r.length) ≤ 60 ^ 4 := by
      rw [← h60]
      exact Nat.mul_le_mul_right _ hw
    have h4 : (60 : Nat) ^ 4 = 12960000 := by decide
    have hfp : D_X5_fullPits (54 + 3 * r.length) w = some (nI (fulC (psT c L P0 r) (psT c L P0 r 14 * c) c), w) := by
      unfold D_X5_fullPits
      have := fulC_em (P := psT c L P0 r) (b := psT c L P0 r 14 * c) c
      rw [isAt_m top, d_emptyPitsOf (isAt_c top) (isAt_s top) (tot_lt hP.2.2.2.2.2) hP.2.1 hP.2.2.2.1, bc_eq, isAt_c top, pk_sub (by omega), show c - emS (psT c L P0 r) (psT c L P0 r 14 * c) c = fulC (psT c L P0 r) (psT c L P0 r 14 * c) c by omega]
    have hc6 := hB.2.1
    have hfc := fulC_em (P := psT c L P0 r) (b := psT c L P0 r 14 * c) c
    have himax : (imax 1 (nI (fulC (psT c L P0 r) (psT c L P0 r 14 * c) c))).toInt64 = lN (fmT c L P0 r) := by
      rw [nI_1', imax_nn (by omega) (by omega)]
      have : ∀ k, k ≤ 6 → (nI k).toInt64 = lN k := by decide +kernel
      exact this _ f6
    have hdv : lN (wgT c L P0 r * 60 ^ (4 - r.length)) / lN (fmT c L P0 r) = lN (wgT c L P0 (p :: r) * 60 ^ (4 - (p :: r).length)) := by
      rw [lN_div (by omega) (by omega), hl2, show 4 - r.length = (4 - (r.length + 1)) + 1 by omega, Nat.pow_succ]
      have e : wgT c L P0 r * (60 ^ (4 - (r.length + 1)) * 60) = 60 * (wgT c L P0 r * 60 ^ (4 - (r.length + 1))) := by
        rw [← Nat.mul_assoc, Nat.mul_comm]
      rw [e, div60 _ f6 f1]
      have e2 : wgT c L P0 (p :: r) = wgT c L P0 r * (60 / fmT c L P0 r) := rfl
      rw [e2, Nat.mul_right_comm]
    have hne : ¬ lN (fmT c L P0 r) = 0 := by
      rw [lN_z (by omega)]
      omega
    rw [hl2, show fu + (r.length + 1) = fu + 1 + r.length by omega, ih (fu + 1) (by omega) ok1 ht.2.2]
    show (if (w.1 87 5) ≤ nI r.length then _ else _) = _
    rw [h5, if_neg (nI_ge (by omega) (by omega)), if_pos (ib_nI (by omega) (by decide)), bd_eq, nI_clamp (by omega), hfp, bc_eq, himax, if_pos hne, hdv, bd_eq, bd_eq, nI_1, hl2]
theorem c_shareT {ot : Bool} {M : Nat} {r : List Nat} (hB : okB c L (P0 14) P0) (hM : M ≤ 4) (h : TS w c L P0 ot M r) : D_X10_share w = some (lN (wgT c L P0 r * 60 ^ (4 - r.length)), w) := by
  have hl := h.2.2.2.2.2.2.2
  have e := c_share (ot := ot) (M := M) (k1 := J_X10_share_x37_1) (N := r.length) hB h.1 (by omega) r (FU - r.length) (Nat.le_refl _) h.2.2.2.2.2.2.1 h.2.2.2.2.1
  rw [nI_0, show FU - r.length + r.length = FU by unfold FU; omega] at e
  unfold D_X10_share
  refine (e.trans ?_)
  rw [show FU - r.length = (FU - r.length - 1) + 1 by unfold FU; omega]
  show (if (w.1 87 5) ≤ nI r.length then _ else _) = _
  rw [h.1, if_pos (nI_le (Nat.le_refl _) (by omega))]
  rfl
theorem c_uvisit {k3 k4 : Int64 → Wd → Option (Int32 × Wd)} (hB : okB c L (P0 14) P0) (hD : D ≤ 4) (hx : x ≤ 108) {fu j t : Nat} {r : List Nat} (hj : j < 900000) (h : TS w c L P0 false D r) : L_X11_luck_43 (nI x) k3 k4 (fu + 1) (lN t) (nI j) w = J_X11_luck_j87_1 (L_X11_luck_43 (nI x) k3 k4 fu) k3 (nI j) (lN (stU c L P0 D x t r)) w := by
  have hl := h.2.2.2.2.2.2.2
  have hP := (psT_ok (L := L) hB r h.2.2.2.2.2.2.1).1
  have top := trT_top r h.2.2.2.2.1
  have hst := le_tot (P := psT c L P0 r) (i := 12) (by decide)
  have hst0 : psT c L P0 r (12 + 0) ≤ tot (psT c L P0 r) := hst
  have hb := hP.2.2.2.2.2
  have hover : D_X5_isOver (54 + 3 * r.length) w = some (if overS c (psT c L P0 r) = true then 1 else 0, w) := by
    rw [d_isOver top hP.2.1 hP.2.2.2.1 hP.2.2.2.2.2]
    by_cases e : overS c (psT c L P0 r) = true
    · rw [if_pos e, if_pos (over_iff.mpr e)]
    · rw [if_neg e, if_neg (fun z => e (over_iff.mp z))]
  have hend : D_X10_isAtEnd w = some (if r.length = D ∨ overS c (psT c L P0 r) = true then 1 else 0, w) := by
    unfold D_X10_isAtEnd
    rw [h.1, h.2.1]
    by_cases e : r.length = D
    · rw [if_pos (by rw [e]), if_pos (Or.inl e)]
    · rw [if_neg (by rw [nI_eq (by omega) (by omega)]; exact e), c_here h, bc_eq, hover, bc_eq]
      by_cases ho : overS c (psT c L P0 r) = true
      · rw [if_pos ho, if_neg (by decide), if_pos (Or.inr ho)]
      · rw [if_neg ho, if_pos rfl, if_neg (fun z => z.elim e ho)]
  generalize hR : L_X11_luck_43 (nI x) k3 k4 fu = R
  show (if (1000000 : Int32) ≤ nI j then _ else _) = _
  rw [show (1000000 : Int32) = nI 1000000 from by decide +kernel, if_neg (nI_ge (by omega) (by decide)), hend, bc_eq, bd_eq, hR]
  unfold stU
  by_cases e : r.length = D ∨ overS c (psT c L P0 r) = true
  · rw [if_pos e, if_neg (by decide), c_here h, bc_eq, if_pos (by decide), show (0 : Int32).toNatClampNeg = 0 from by decide, at_P top (by decide)]
    by_cases hlt : psT c L P0 r (12 + 0) < x
    · rw [if_pos (nI_lt hlt (by omega)), if_neg (show ¬ leT c L P0 D x r from fun z => by have := z.2; exact absurd hlt (by rw [Nat.add_zero]; omega)), Nat.add_zero t]
    · rw [if_neg (nI_nlt (by omega) (by omega)), if_pos (show leT c L P0 D x r from ⟨e, by rw [Nat.add_zero] at hlt; omega⟩), c_shareT hB hD h, bc_eq, bd_eq, lN_add]
  · rw [if_neg e, if_pos rfl, if_neg (show ¬ leT c L P0 D x r from fun z => e z.1), Nat.add_zero t]
theorem c_uloop {k3 k4 : Int64 → Wd → Option (Int32 × Wd)} (hB : okB c L (P0 14) P0) (hD : D ≤ 4) (hx : x ≤ 108) : ∀ (l : List (List Nat)) (fu j t : Nat) (r : List Nat) (w : Wd), l.length < fu → j + l.length < 800000 → TS w c L P0 false D r → sbT c L P0 false (D - r.length) r ++ rsT c L P0 false D r = l → ∃ w1, L_X11_luck_43 (nI x) k3 k4 fu (lN t) (nI j) w = k3 (lN ((r :: l).foldl (stU c L P0 D x) t)) w1 ∧ qC ET [] w w1 := by
  intro l
  induction l with
  | nil =>
    intro fu j t r w hf hj h hl
    have hnil : ([] : List (List Nat)).length = 0 := rfl
    obtain ⟨fu, rfl⟩ : ∃ n', fu = n' + 1 := ⟨fu - 1, by omega⟩
    rcases d_step hB (by omega) h with ⟨w2, e2, q2, -⟩ | ⟨q, w2, e2, q2, T2, e3⟩
    · refine ⟨w2, ?_, q2⟩
      rw [c_uvisit hB hD hx (by omega) h]
      unfold J_X11_luck_j87_1
      rw [e2, bc_eq, if_pos rfl]
      rfl
    · rw [hl] at e3
      cases e3
  | cons τ l ih =>
    intro fu j t r w hf hj h hl
    have hll : (τ :: l).length = l.length + 1 := rfl
    obtain ⟨fu, rfl⟩ : ∃ n', fu = n' + 1 := ⟨fu - 1, by omega⟩
    rcases d_step hB (by omega) h with ⟨w2, e2, q2, e3⟩ | ⟨q, w2, e2, q2, T2, e3⟩
    · rw [hl] at e3
      cases e3
    · rw [hl] at e3
      injection e3 with eq1 eq2
      subst eq1
      obtain ⟨w3, f1, f2⟩ := ih fu (j + 1) (stU c L P0 D x t r) τ w2 (by omega) (by omega) T2 eq2.symm
      refine ⟨w3, ?_, qC_tr q2 f2⟩
      rw [c_uvisit hB hD hx (by omega) h]
      unfold J_X11_luck_j87_1
      rw [e2, bc_eq, if_neg (by decide), bd_eq, nI_1, f1]
      rfl
end LU
/-! the reference's sum -/
def luK (c L : Nat) (P0 : Nat → Nat) (f : List Nat → Nat) (r : List Nat) : Nat → Nat → Nat
  | 0, _ => 0
  | m + 1, p => (if psT c L P0 r (psT c L P0 r 14 * c + p) = 0 then 0 else 60 / fmT c L P0 r * f (p :: r)) + luK c L P0 f r m (p + 1)
def luV (c L : Nat) (P0 : Nat → Nat) (x : Nat) : Nat → List Nat → Nat
  | 0, r => if x ≤ psT c L P0 r 12 then 1 else 0
  | n + 1, r => if overS c (psT c L P0 r) = true then (if x ≤ psT c L P0 r 12 then 60 ^ (n + 1) else 0) else luK c L P0 (luV c L P0 x n) r c 0
section LV
variable {w u : Wd} {c L D x : Nat} {P0 : Nat → Nat}
theorem luK_le {z : Nat} {f : List Nat → Nat} (hf : ∀ s, f s ≤ z) (r : List Nat) : ∀ m p, luK c L P0 f r m p ≤ m * (60 * z) := by
  intro m
  induction m with
  | zero => intro p; exact Nat.zero_le _
  | succ m ih =>
    intro p
    have h1 := ih (p + 1)
    unfold luK
    rw [Nat.succ_mul]
    have h2 : (if psT c L P0 r (psT c L P0 r 14 * c + p) = 0 then 0 else 60 / fmT c L P0 r * f (p :: r)) ≤ 60 * z := by
      split
      · exact Nat.zero_le _
      · exact Nat.mul_le_mul (Nat.div_le_self _ _) (hf _)
    omega
theorem luV_le (h6 : c ≤ 6) : ∀ n r, luV c L P0 x n r ≤ 360 ^ n := by
  intro n
  induction n with
  | zero =>
    intro r
    unfold luV
    split <;> decide
  | succ n ih =>
    intro r
    unfold luV
    split
    · split
      · exact Nat.pow_le_pow_left (by decide) _
      · exact Nat.zero_le _
    · have h1 := luK_le (c := c) (L := L) (P0 := P0) (f := luV c L P0 x n) (z := 360 ^ n) ih r c 0
      rw [Nat.pow_succ]
      have h2 : c * (60 * 360 ^ n) ≤ 6 * (60 * 360 ^ n) := Nat.mul_le_mul_right _ h6
      omega
theorem stU_add : ∀ (l : List (List Nat)) (t : Nat), l.foldl (stU c L P0 D x) t = t + l.foldl (stU c L P0 D x) 0 := by
  intro l
  induction l with
  | nil => intro t; rfl
  | cons τ l ih =>
    intro t
    show l.foldl (stU c L P0 D x) (stU c L P0 D x t τ) = t + l.foldl (stU c L P0 D x) (stU c L P0 D x 0 τ)
    rw [ih, ih (stU c L P0 D x 0 τ)]
    unfold stU
    omega
/-- the sum over all nodes is the reference's sum, on another scale -/
theorem lu_sum (hD : D ≤ 4) : ∀ n r, r.length + n = D → (r :: sbT c L P0 false n r).foldl (stU c L P0 D x) 0 = wgT c L P0 r * luV c L P0 x n r * 60 ^ (4 - D) := by
  intro n
  induction n with
  | zero =>
    intro r hr
    show 0 + (if leT c L P0 D x r then _ else 0) = wgT c L P0 r * (if x ≤ psT c L P0 r 12 then 1 else 0) * 60 ^ (4 - D)
    by_cases hx : x ≤ psT c L P0 r 12
    · rw [if_pos (show leT c L P0 D x r from ⟨Or.inl (by omega), hx⟩), if_pos hx, Nat.mul_one, Nat.zero_add, show r.length = D by omega]
    · rw [if_neg (show ¬ leT c L P0 D x r from fun z => hx z.2), if_neg hx]
      simp
  | succ n ih =>
    intro r hr
    have es : sbT c L P0 false (n + 1) r = kdT c L P0 (sbT c L P0 false n) r c 0 := if_neg (fun z => by cases z.1)
    have ev : luV c L P0 x (n + 1) r = if overS c (psT c L P0 r) = true then (if x ≤ psT c L P0 r 12 then 60 ^ (n + 1) else 0) else luK c L P0 (luV c L P0 x n) r c 0 := rfl
    have hkd : ∀ m p, (kdT c L P0 (sbT c L P0 false n) r m p).foldl (stU c L P0 D x) 0 = wgT c L P0 r * luK c L P0 (luV c L P0 x n) r m p * 60 ^ (4 - D) := by
      intro m
      induction m with
      | zero => intro p; show 0 = wgT c L P0 r * 0 * 60 ^ (4 - D); simp
      | succ m ihm =>
        intro p
        have e0 : kdT c L P0 (sbT c L P0 false n) r (m + 1) p = (if psT c L P0 r (psT c L P0 r 14 * c + p) = 0 then [] else (p :: r) :: sbT c L P0 false n (p :: r)) ++ kdT c L P0 (sbT c L P0 false n) r m (p + 1) := rfl
        have e1 : luK c L P0 (luV c L P0 x n) r (m + 1) p = (if psT c L P0 r (psT c L P0 r 14 * c + p) = 0 then 0 else 60 / fmT c L P0 r * luV c L P0 x n (p :: r)) + luK c L P0 (luV c L P0 x n) r m (p + 1) := rfl
        rw [e0, e1, List.foldl_append, stU_add, ihm]
        by_cases hz : psT c L P0 r (psT c L P0 r 14 * c + p) = 0
        · rw [if_pos hz, if_pos hz, Nat.zero_add]
          show 0 + _ = _
          rw [Nat.zero_add]
        · rw [if_neg hz, if_neg hz, ih (p :: r) (by show r.length + 1 + n = D; omega)]
          show wgT c L P0 r * (60 / fmT c L P0 r) * _ * _ + _ = _
          rw [Nat.mul_add, Nat.add_mul, Nat.mul_assoc (wgT c L P0 r)]
    show (sbT c L P0 false (n + 1) r).foldl (stU c L P0 D x) (stU c L P0 D x 0 r) = _
    rw [es, stU_add, hkd, ev]
    unfold stU
    by_cases ho : overS c (psT c L P0 r) = true
    · have hz : luK c L P0 (luV c L P0 x n) r c 0 = 0 := by
        have hs := over_iff.mpr ho
        have key : ∀ m p, m + p = c → luK c L P0 (luV c L P0 x n) r m p = 0 := by
          intro m
          induction m with
          | zero => intro p _; rfl
          | succ m ihm =>
            intro p hp
            have hle : ∀ k, p < k → k ≤ c → psT c L P0 r (psT c L P0 r 14 * c + p) ≤ sumS (psT c L P0 r) (psT c L P0 r 14 * c) k := by
              intro k
              induction k with
              | zero => intro h1 _; omega
              | succ k ihk =>
                intro h1 h2
                show _ ≤ sumS _ _ k + psT c L P0 r (psT c L P0 r 14 * c + k)
                by_cases e : k = p
                · rw [e]; omega
                · have := ihk (by omega) (by omega)
                  omega
            have h0 : psT c L P0 r (psT c L P0 r 14 * c + p) = 0 := by
              have := hle c (by omega) (Nat.le_refl _)
              omega
            show (if psT c L P0 r (psT c L P0 r 14 * c + p) = 0 then 0 else _) + _ = 0
            rw [if_pos h0, ihm (p + 1) (by omega)]
        exact key c 0 rfl
      rw [if_pos ho, hz]
      by_cases hx : x ≤ psT c L P0 r 12
      · rw [if_pos (show leT c L P0 D x r from ⟨Or.inr ho, hx⟩), if_pos hx, show 4 - r.length = (n + 1) + (4 - D) by omega, Nat.pow_add]
        simp [Nat.mul_assoc]
      · rw [if_neg (show ¬ leT c L P0 D x r from fun z => hx z.2), if_neg hx]
        simp
    · rw [if_neg ho, if_neg (show ¬ leT c L P0 D x r from fun z => z.1.elim (fun z => by omega) ho)]
      simp
end LV
