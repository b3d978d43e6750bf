/-! a question: class and reference answer alike, nothing stays but the ROW; what the questions stand on -/
def Quest (f g : Wd → Option (Int32 × Wd)) : Prop := ∀ (w : Wd) (c L : Nat) (P : Nat → Nat) (hs : List (Nat → Nat)) (tx rl : List Nat) (cd : List Int32) (V : (Nat → Int32) → Int32) (kp : Nat → Option (Nat → Nat)) (cl si : List (Int32 × Int32)) (rw : List Int64) (B : Nat), CR w c L P hs tx cd kp cl si rw → okS c L P hs tx kp cl si rw B → okRl rl cd V → ∃ r rw', rw'.length ≤ 20 ∧ (∃ w1, f w = some (r, w1) ∧ CR w1 c L P hs tx cd kp cl si rw' ∧ onC w w1) ∧ ∀ u, MR u c L P hs tx rl kp cl si rw → ∃ u1, g u = some (r, u1) ∧ MR u1 c L P hs tx rl kp cl si rw' ∧ onM u u1
theorem okB_of {c L : Nat} {P : Nat → Nat} {hs : List (Nat → Nat)} {tx : List Nat} {kp : Nat → Option (Nat → Nat)} {cl si : List (Int32 × Int32)} {rw : List Int64} {B : Nat} (h : okS c L P hs tx kp cl si rw B) : okB c L (P 14) P := by
  obtain ⟨h1, h2, h3, ⟨h4, h5⟩, -, -, -, -, -, -, h6⟩ := h
  exact ⟨h1, h2, h3, h4, rfl, by omega⟩
theorem okS_rw {c L : Nat} {P : Nat → Nat} {hs : List (Nat → Nat)} {tx : List Nat} {kp : Nat → Option (Nat → Nat)} {cl si : List (Int32 × Int32)} {rw : List Int64} {B : Nat} (h : okS c L P hs tx kp cl si rw B) : rw.length ≤ 20 := h.2.2.2.2.2.2.2.2.2.1
theorem arg_cases (c : Nat) (hc : c < 2 ^ 31) (x : Int32) : (x < 0 ∨ nI c ≤ x) ∨ ∃ p, p < c ∧ x = nI p := by
  by_cases h : x < 0
  · exact Or.inl (Or.inl h)
  · obtain ⟨j, hj, rfl⟩ := nI_of h
    by_cases h2 : j < c
    · exact Or.inr ⟨j, h2, rfl⟩
    · exact Or.inl (Or.inr (nI_le (by omega) hj))
theorem onC_rf (w : Wd) : onC w w := ⟨fun _ _ => rfl, fun _ _ => rfl, rfl⟩
section CT
variable {w : Wd} {c L p : Nat} {P : Nat → Nat}
theorem c_tryNo {x : Int32} {L' : Int32} (m0 : isAt w 0 c P) (hp : posC w) (hx : x < 0 ∨ nI c ≤ x) : ∃ w1, D_X11_tryMove x L' w = some (0, w1) ∧ qC EC0 [] w w1 := by
  obtain ⟨c6, P6, h6⟩ := hp 6 (by decide)
  refine ⟨pW w 6 c P, ?_, qC_at (r := 6) (by decide) pW_but (by decide) (by decide) ⟨_, _, pW_at _ _ _ _⟩⟩
  unfold D_X11_tryMove
  rw [d_take (by decide) (by decide) (by decide) h6 m0, bv_eq]
  unfold D_X1_make
  rw [d_canMove_no (isAt_c (pW_at _ _ _ _)) hx, bc_eq, if_pos rfl, bc_eq, if_pos (by decide)]
theorem c_tryMove (m0 : isAt w 0 c P) (hp : posC w) (hB : okB c L (P 14) P) (hpc : p < c) : (P (P 14 * c + p) = 0 → ∃ w1, D_X11_tryMove (nI p) (nI L) w = some (0, w1) ∧ qC EC0 [] w w1) ∧ (P (P 14 * c + p) ≠ 0 → ∃ w1, D_X11_tryMove (nI p) (nI L) w = some (1, w1) ∧ qC EC0 [] w w1 ∧ isAt w1 6 c (mvP c L (P 14) p P) ∧ fM w1 84 = askS c L P p ∧ w1.1 84 7 = nI (staysS L (mv1 c L (P 14) p P).1) ∧ w1.1 84 6 = nI (mv1 c L (P 14) p P).1 ∧ w1.1 84 5 = nI (mv1 c L (P 14) p P).2.2 ∧ w1.1 84 4 = gainS c L (P 14) p P) := by
  obtain ⟨w1, t1, t2, t3, t4, t5⟩ := c_try (r := 6) (q := 0) (v := 84) (p := p) (by decide) (by decide) (by decide) (by decide) (by decide) m0 (hp 6 (by decide)) hB hpc
  refine ⟨fun h0 => ⟨w1, ?_, qC_at (r := 6) (by decide) t4 (by decide) (by decide) ⟨_, _, t2⟩⟩, fun h0 => ?_⟩
  · unfold D_X11_tryMove
    rw [t1, bv_eq, t3 h0, bc_eq, if_pos (by decide)]
  · obtain ⟨w2, s1, s2, s3, s4, s5, s6, s7, s8⟩ := t5 h0
    refine ⟨w2, ?_, qC_at (r := 6) (by decide) s8 (by decide) (by decide) ⟨_, _, s2⟩, s2, s3, s4, s5, s6, s7⟩
    unfold D_X11_tryMove
    rw [t1, bv_eq, s1, bc_eq, if_pos (by decide)]
end CT
/-- the reference's rows for positions -/
abbrev isArr (b : Nat) : Prop := b = 128 ∨ b = 129 ∨ b = 130 ∨ (133 ≤ b ∧ b < 140)
theorem arr_ln {b : Nat} (h : isArr b) : ln b = 16 ∧ b ≠ 119 ∧ b ∈ EM := by
  rcases (by omega : b = 128 ∨ b = 129 ∨ b = 130 ∨ b = 133 ∨ b = 134 ∨ b = 135 ∨ b = 136 ∨ b = 137 ∨ b = 138 ∨ b = 139) with h | h | h | h | h | h | h | h | h | h <;> subst h <;> exact ⟨rfl, by decide, by decide⟩
section MT
variable {w : Wd} {a b c L p : Nat} {P : Nat → Nat}
theorem m_lay (hla : ln a = 16) (hb : isArr b) (hab : a ≠ b) (h : isM w a P) (hr : arrM w) : ∃ w1, D_X12_lay a b 0 w = some w1 ∧ isM w1 b P ∧ sameR [b] [] [] [] w w1 := by
  obtain ⟨Q, hQ⟩ := hr b hb
  refine ⟨wR w b (eP P), d_lay hab hla (arr_ln hb).1 h hQ, ⟨wR_self _ _ _, h.2⟩, ⟨fun x hx _ => wR_ne (by simpa using hx), fun k _ => by rw [wR_ne (Ne.symm (arr_ln hb).2.1)], fun _ _ => rfl, fun _ _ => rfl⟩⟩
theorem m_go (ha : isArr a) (h : isM w a P) (hc : w.1 119 1 = nI c) (hL : w.1 119 2 = nI L) (hB : okB c L (P 14) P) (hp : p < c) : ∃ w1, D_X12_goMove a (nI p) w = some w1 ∧ isM w1 a (mvP c L (P 14) p P) ∧ sameR [a] [19, 20, 21] [] [] w w1 ∧ w1.1 119 19 = gainS c L (P 14) p P ∧ w1.1 119 20 = nI (mv1 c L (P 14) p P).2.2 ∧ w1.1 119 21 = nI (mv1 c L (P 14) p P).1 := by
  have ha9 := (arr_ln ha).2.1
  have hgo := d_goMove (w := w) (a := a) (c := c) (L := L) (m := P 14) (g := w.1 119) (p := p) (P := P) ha9 (arr_ln ha).1 hc hL hB hp
  rw [← h.1, W2_id ha9] at hgo
  refine ⟨_, hgo, ⟨W2_a ha9, mvP_hi hB hp h.2⟩, ⟨fun x hx h9 => W2_ne (by simpa using hx) h9, fun k hk => ?_, fun _ _ => by rw [W2_2], fun _ _ => by rw [W2_2]⟩, ?_, ?_, ?_⟩
  · simp only [List.mem_cons, List.not_mem_nil, or_false, not_or] at hk
    rw [W2_M, upd_ne (by omega), upd_ne (by omega), upd_ne (by omega)]
  · rw [W2_M, upd_self]; rfl
  · rw [W2_M, upd_ne (by decide), upd_self]
  · rw [W2_M, upd_ne (by decide), upd_ne (by decide), upd_self]
/-- a MOVE is tried on a row of its own -/
theorem m_try (hla : ln a = 16) (hb : isArr b) (hab : a ≠ b) (h : isM w a P) (hr : arrM w) (hc : w.1 119 1 = nI c) (hL : w.1 119 2 = nI L) (hB : okB c L (P 14) P) (hp : p < c) : ∃ w1 w2, D_X12_lay a b 0 w = some w1 ∧ D_X12_goMove b (nI p) w1 = some w2 ∧ isM w2 b (mvP c L (P 14) p P) ∧ sameR [b] [19, 20, 21] [] [] w w2 ∧ qM FM0 [] w w2 ∧ w2.1 119 19 = gainS c L (P 14) p P ∧ w2.1 119 20 = nI (mv1 c L (P 14) p P).2.2 ∧ w2.1 119 21 = nI (mv1 c L (P 14) p P).1 := by
  obtain ⟨w1, e1, i1, s1⟩ := m_lay hla hb hab h hr
  obtain ⟨w2, e2, i2, s2, f1, f2, f3⟩ := m_go hb i1 ((s1.2.1 1 (by simp)).trans hc) ((s1.2.1 2 (by simp)).trans hL) hB hp
  have s : sameR [b] [19, 20, 21] [] [] w w2 := sameR_tr (sameR_sub s1 (fun _ z => z) (by simp) (by simp) (by simp)) s2
  refine ⟨w1, w2, e1, e2, i2, s, ?_, f1, f2, f3⟩
  exact qM_sub (qM_at (r := b) s (fun x z => by rw [List.mem_singleton.mp z]; exact (arr_ln hb).2.2) (fun x z => Or.inl (List.mem_singleton.mp z)) (by simp) ⟨_, i2⟩) (by decide) (by simp)
end MT
/-! no MOVE takes SEEDS out of its own STORE -/
section GN
variable {c L m : Nat}
theorem putS_ge {a : Nat} {P : Nat → Nat} : P (12 + m) ≤ putS m P a (12 + m) := by
  unfold putS
  by_cases h : 12 + m = plS m a
  · rw [← h, uN_self]
    omega
  · rw [uN_ne h]
    exact Nat.le_refl _
theorem sowS_ge {f : Nat} : ∀ (s q : Nat) (P : Nat → Nat), P (12 + m) ≤ (sowS c L m f s q P).2 (12 + m) := by
  intro s
  induction s with
  | zero => intro q P; exact Nat.le_refl _
  | succ s ih =>
    intro q P
    exact Nat.le_trans putS_ge (ih _ _)
theorem lapS_ge {f : Nat} {P : Nat → Nat} (hf : f < 12) : P (12 + m) ≤ (lapS c L m f P).2 (12 + m) := by
  unfold lapS
  have := sowS_ge (c := c) (L := L) (m := m) (f := f) (P f) f (uN P f 0)
  rw [uN_ne (by omega)] at this
  exact this
theorem goS_ge (h2 : 2 ≤ c) (h6 : c ≤ 6) (hm : m ≤ 1) : ∀ (n q : Nat) (P : Nat → Nat) (l : Nat), okPl c q → P (12 + m) ≤ (goS c L m n q P l).2.1 (12 + m) := by
  intro n
  induction n with
  | zero => intro q P l _; exact Nat.le_refl _
  | succ n ih =>
    intro q P l hq
    unfold goS
    split
    · rename_i h
      have hq50 : q < 2 * c := by
        rcases hq with z | z
        · exact z
        · exfalso
          simp [z] at h
      obtain ⟨j1, -, -⟩ := lapS_inv (L := L) (P := P) (f := q) h2 h6 hm hq50
      exact Nat.le_trans (lapS_ge (by omega)) (ih _ _ _ j1)
    · exact Nat.le_refl _
theorem takeS_ge {i : Nat} {P : Nat → Nat} (hi : i < 12) : P (12 + m) ≤ takeS m P i (12 + m) := by
  unfold takeS
  rw [uN_ne (by omega), uN_self]
  omega
theorem capCS_ge {q : Nat} {P : Nat → Nat} (h6 : c ≤ 6) (hq : okPl c q) : P (12 + m) ≤ capCS c L m q P (12 + m) := by
  unfold capCS
  split
  · rename_i h
    have hq50 : q < 2 * c := hq.elim id (fun z => absurd z h.1)
    exact Nat.le_trans (takeS_ge (i := q) (by omega)) (takeS_ge (by omega))
  · exact Nat.le_refl _
theorem capT_ge : ∀ (i : Nat) (P : Nat → Nat), i ≤ 12 → P (12 + m) ≤ capT c m i P (12 + m) := by
  intro i
  induction i with
  | zero => intro P _; exact Nat.le_refl _
  | succ i ih =>
    intro P hi
    unfold capT
    split
    · exact Nat.le_trans (takeS_ge (by omega)) (ih _ (by omega))
    · exact Nat.le_refl _
theorem capTS_ge {q : Nat} {P : Nat → Nat} (h6 : c ≤ 6) (hq : okPl c q) : P (12 + m) ≤ capTS c L m q P (12 + m) := by
  unfold capTS
  split
  · rename_i h
    have hq50 : q < 2 * c := hq.elim id (fun z => absurd z h.1)
    exact capT_ge _ _ (by omega)
  · exact Nat.le_refl _
end GN
theorem gainS_nat {c L p : Nat} {P : Nat → Nat} (hB : okB c L (P 14) P) (hp : p < c) : gainS c L (P 14) p P = nI (mvB c L (P 14) p P (12 + P 14) - P (12 + P 14)) ∧ mvB c L (P 14) p P (12 + P 14) - P (12 + P 14) < 400000 ∧ P (12 + P 14) ≤ mvB c L (P 14) p P (12 + P 14) := by
  obtain ⟨-, ht⟩ := mvP_14 hB hp
  obtain ⟨h2, h6, hL, hm, -, ht0⟩ := hB
  have hmc := mc_le h6 hm
  have hfr : P 14 * c + p < 2 * c := by rcases (by omega : P 14 = 0 ∨ P 14 = 1) with h | h <;> rw [h] <;> omega
  obtain ⟨j1, j2, j3⟩ := lapS_inv (L := L) (P := P) h2 h6 hm hfr
  obtain ⟨i1, i2, i3, i4⟩ := goS_inv (L := L) h2 h6 hm 50 _ (lapS c L (P 14) (P 14 * c + p) P).2 1 j1 (by omega)
  have g1 : P (12 + P 14) ≤ (lapS c L (P 14) (P 14 * c + p) P).2 (12 + P 14) := lapS_ge (by omega)
  have g2 : (lapS c L (P 14) (P 14 * c + p) P).2 (12 + P 14) ≤ (mv1 c L (P 14) p P).2.1 (12 + P 14) := goS_ge h2 h6 hm 50 _ _ 1 j1
  have g3 : (mv1 c L (P 14) p P).2.1 (12 + P 14) ≤ capCS c L (P 14) (mv1 c L (P 14) p P).1 (mv1 c L (P 14) p P).2.1 (12 + P 14) := capCS_ge h6 i1
  have g4 : capCS c L (P 14) (mv1 c L (P 14) p P).1 (mv1 c L (P 14) p P).2.1 (12 + P 14) ≤ mvB c L (P 14) p P (12 + P 14) := capTS_ge h6 i1
  have hle : P (12 + P 14) ≤ mvB c L (P 14) p P (12 + P 14) := Nat.le_trans g1 (Nat.le_trans g2 (Nat.le_trans g3 g4))
  have e : mvP c L (P 14) p P (12 + P 14) = mvB c L (P 14) p P (12 + P 14) := mvB_lo (by omega) (by omega)
  have hb : mvP c L (P 14) p P (12 + P 14) ≤ tot (mvP c L (P 14) p P) := le_tot (by omega)
  refine ⟨?_, by omega, hle⟩
  unfold gainS
  exact pk_sub hle
