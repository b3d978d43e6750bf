/-! game -/
def acB (x : Nat) : Bool := x = 42 || x = 47 || (48 ≤ x && x < 54)
/-- the first of n signs from i on that is no act -/
def gmW (tx : List Nat) : Nat → Nat → Option Nat
  | 0, _ => none
  | n + 1, i => if acB (tx.getD i 300) = true then gmW tx n (i + 1) else some i
def acF (c L : Nat) (V : (Nat → Int32) → Int32) (x : Nat) (P : Nat → Nat) : Option (Nat → Nat) := if x = 47 then some (uN P 14 (1 - P 14)) else if x = 42 then (if overS c P = true then none else some (rlS c L P V)) else if x - 48 < c ∧ P (P 14 * c + (x - 48)) ≠ 0 then some (mvP c L (P 14) (x - 48) P) else none
def gaF (c L : Nat) (V : (Nat → Int32) → Int32) (tx : List Nat) : Nat → Nat → (Nat → Nat) → Nat × (Nat → Nat)
  | 0, _, P => (0, P)
  | n + 1, i, P => match acF c L V (tx.getD i 300) P with | none => (0, P) | some Q => ((gaF c L V tx n (i + 1) Q).1 + 1, (gaF c L V tx n (i + 1) Q).2)
theorem gmW_some {tx : List Nat} : ∀ n i j, gmW tx n i = some j → i ≤ j ∧ j < i + n ∧ acB (tx.getD j 300) = false := by
  intro n
  induction n with
  | zero => intro i j h; cases h
  | succ n ih =>
    intro i j h
    unfold gmW at h
    by_cases e : acB (tx.getD i 300) = true
    · rw [if_pos e] at h
      have := ih _ _ h
      exact ⟨by omega, by omega, this.2.2⟩
    · rw [if_neg e] at h
      cases h
      exact ⟨Nat.le_refl _, by omega, by simpa using e⟩
theorem gmW_none {tx : List Nat} : ∀ n i, gmW tx n i = none → ∀ j, i ≤ j → j < i + n → acB (tx.getD j 300) = true := by
  intro n
  induction n with
  | zero => intro i h j h1 h2; omega
  | succ n ih =>
    intro i h j h1 h2
    unfold gmW at h
    by_cases hd : acB (tx.getD i 300) = true
    · rw [if_pos hd] at h
      by_cases e : j = i
      · subst e; exact hd
      · exact ih _ h j (by omega) (by omega)
    · rw [if_neg hd] at h
      cases h
theorem acB_iff {x : Nat} : acB x = true ↔ (x = 42 ∨ x = 47 ∨ (48 ≤ x ∧ x < 54)) := by
  unfold acB
  simp [or_assoc]
theorem tot14 {P : Nat → Nat} {v : Nat} : tot (uN P 14 v) = tot P := sumS_congr 14 (fun i hi => uN_ne (by omega))
theorem acF_ok {c L x : Nat} {V : (Nat → Int32) → Int32} {P Q : Nat → Nat} (hB : okB c L (P 14) P) (h : acF c L V x P = some Q) : okB c L (Q 14) Q ∧ tot Q = tot P := by
  unfold acF at h
  by_cases h47 : x = 47
  · rw [if_pos h47] at h
    cases h
    refine ⟨?_, tot14⟩
    have := okB_turn hB
    rw [uN_self]
    exact this
  · rw [if_neg h47] at h
    by_cases h42 : x = 42
    · rw [if_pos h42] at h
      by_cases ho : overS c P = true
      · rw [if_pos ho] at h; cases h
      · rw [if_neg ho] at h
        cases h
        exact rlS_ok hB
    · rw [if_neg h42] at h
      by_cases h3 : x - 48 < c ∧ P (P 14 * c + (x - 48)) ≠ 0
      · rw [if_pos h3] at h
        cases h
        exact ⟨okB_mv hB h3.1, (mvP_14 hB h3.1).2⟩
      · rw [if_neg h3] at h; cases h
theorem gaF_ok {c L : Nat} {V : (Nat → Int32) → Int32} {tx : List Nat} : ∀ (n i : Nat) (P : Nat → Nat), okB c L (P 14) P → okB c L ((gaF c L V tx n i P).2 14) (gaF c L V tx n i P).2 ∧ tot (gaF c L V tx n i P).2 = tot P ∧ (gaF c L V tx n i P).1 ≤ n := by
  intro n
  induction n with
  | zero => intro i P hB; exact ⟨hB, rfl, Nat.le_refl _⟩
  | succ n ih =>
    intro i P hB
    unfold gaF
    cases h : acF c L V (tx.getD i 300) P with
    | none => exact ⟨hB, rfl, Nat.zero_le _⟩
    | some Q =>
      obtain ⟨a, b⟩ := acF_ok hB h
      obtain ⟨i1, i2, i3⟩ := ih (i + 1) Q a
      exact ⟨i1, i2.trans b, Nat.succ_le_succ i3⟩
section GA
variable {w w0 u u0 : Wd} {c L : Nat} {P P0 : Nat → Nat} {hs : List (Nat → Nat)} {tx rl : List Nat} {cd : List Int32} {V : (Nat → Int32) → Int32} {kp : Nat → Option (Nat → Nat)} {cl si : List (Int32 × Int32)} {rw : List Int64}
theorem c_isAct {x : Nat} (hx : x < 256) (w : Wd) : D_X11_isAct (nI x) w = some (if acB x = true then 1 else 0, w) := by
  unfold D_X11_isAct
  have j : J_X11_isAct_j12_1 (nI x) w = some (if x = 42 ∨ x = 47 then 1 else 0, w) := by
    unfold J_X11_isAct_j12_1
    rw [show (42 : Int32) = nI 42 from by decide +kernel, show (47 : Int32) = nI 47 from by decide +kernel]
    by_cases h1 : x = 42
    · rw [if_pos (by rw [h1]), if_pos (Or.inl h1)]
    · rw [if_neg (by rw [nI_eq (by omega) (by omega)]; exact h1)]
      by_cases h2 : x = 47
      · rw [if_pos (by rw [h2]), if_pos (Or.inr h2)]
      · rw [if_neg (by rw [nI_eq (by omega) (by omega)]; exact h2), if_neg (fun z => z.elim h1 h2)]
  rw [bd_eq, j, show (48 : Int32) = nI 48 from by decide +kernel, show (53 : Int32) = nI 53 from by decide +kernel]
  by_cases h1 : x < 48
  · rw [if_pos (nI_lt h1 (by decide))]
    by_cases h2 : x = 42 ∨ x = 47
    · rw [if_pos h2, if_pos (acB_iff.mpr (by omega))]
    · rw [if_neg h2, if_neg (by rw [acB_iff]; omega)]
  · rw [if_neg (nI_nlt (by omega) (by omega))]
    by_cases h2 : x ≤ 53
    · rw [if_pos (nI_le h2 (by decide)), if_pos (acB_iff.mpr (by omega))]
    · rw [if_neg (nI_ge (by omega) (by omega)), if_neg (show ¬ (x = 42 ∨ x = 47) by omega), if_neg (by rw [acB_iff]; omega)]
theorem getD_03 {i : Nat} (h : i < tx.length) : tx.getD i 0 = tx.getD i 300 := by
  rw [List.getD_eq_getElem?_getD, List.getD_eq_getElem?_getD, List.getElem?_eq_getElem h]
  rfl
theorem c_gmloop (h : textC w tx) (hl : tx.length ≤ 80) (hx : ∀ x ∈ tx, x < 256) : ∀ (n i fu : Nat), n + i = min tx.length 60 → n < fu → L_X11_wrongInGame_2 J_X11_wrongInGame_x33_1 J_X11_wrongInGame_x41_2 fu (nI i) w = some ((match gmW tx n i with | some j => nI j | none => if 60 < tx.length then nI 60 else -1), w) := by
  intro n
  induction n with
  | zero =>
    intro i fu hi hf
    obtain ⟨fu, rfl⟩ : ∃ n', fu = n' + 1 := ⟨fu - 1, by omega⟩
    unfold L_X11_wrongInGame_2
    rw [h.1]
    by_cases c1 : tx.length ≤ i
    · rw [if_pos (nI_le c1 (by omega))]
      show some ((-1 : Int32), w) = some (if 60 < tx.length then nI 60 else -1, w)
      rw [if_neg (by omega)]
    · rw [if_neg (nI_ge (by omega) (by omega)), show (60 : Int32) = nI 60 from by decide +kernel, if_pos (by rw [show i = 60 by omega])]
      show some (nI i, w) = some (if 60 < tx.length then nI 60 else -1, w)
      rw [if_pos (by omega), show i = 60 by omega]
  | succ n ih =>
    intro i fu hi hf
    obtain ⟨fu, rfl⟩ : ∃ n', fu = n' + 1 := ⟨fu - 1, by omega⟩
    have h256 : tx.getD i 300 < 256 := hx _ (List.mem_of_getElem? (getD_lt (by omega)))
    unfold L_X11_wrongInGame_2 gmW
    rw [h.1, if_neg (nI_ge (by omega) (by omega)), show (60 : Int32) = nI 60 from by decide +kernel, if_neg (by rw [nI_eq (by omega) (by omega)]; omega), c_at h hl (by omega), bc_eq, getD_03 (by omega), c_isAct h256, bc_eq]
    by_cases c1 : acB (tx.getD i 300) = true
    · rw [if_pos c1, if_pos c1, if_neg (by decide), bd_eq, nI_1, ih (i + 1) fu (by omega) (by omega)]
    · rw [if_neg c1, if_neg c1, if_pos rfl]
      rfl
abbrev EG : List Nat := [0, 1, 2, 51, 52, 53, 84, 85, 86, 108]
def gC (w0 w : Wd) (c : Nat) (P : Nat → Nat) : Prop := but EG w0 w ∧ isAt w 0 c P ∧ ∃ c' P', isAt w 51 c' P'
theorem c_doAct {x : Nat} (m : CR w0 c L P0 hs tx cd kp cl si rw) (okr : okRl rl cd V) (hB : okB c L (P 14) P) (h : gC w0 w c P) (hx : acB x = true) : ∃ w1, D_X11_doAct (nI x) w = some ((match acF c L V x P with | none => 0 | some _ => 1), w1) ∧ gC w0 w1 c (match acF c L V x P with | none => P | some Q => Q) := by
  have hx256 : x < 54 ∧ 42 ≤ x := by
    have := acB_iff.mp hx
    omega
  obtain ⟨hb, h0, h51⟩ := h
  have hL : w.1 75 18 = nI L := by rw [hb.1 75 (by decide)]; exact m.2.1
  unfold D_X11_doAct acF
  rw [show (47 : Int32) = nI 47 from by decide +kernel, show (42 : Int32) = nI 42 from by decide +kernel]
  by_cases h47 : x = 47
  · obtain ⟨w1, e1, a1, b1⟩ := d_pass h0 hB.2.2.2.1
    rw [if_pos (by rw [h47]), if_pos h47]
    refine ⟨w1, by rw [e1, bv_eq], but_tr hb (but_sub b1 (by simp)), a1, ?_⟩
    obtain ⟨c', P', z⟩ := h51
    exact ⟨c', P', isAt_same z (same_but (T := []) b1) (by decide)⟩
  · rw [if_neg (by rw [nI_eq (by omega) (by omega)]; exact h47), if_neg h47]
    by_cases h42 : x = 42
    · have hj : JR w 106 V := JR_but (JR_of m.2.2.2.2.2.2.2.2.2.1 okr) hb (by decide) (by decide)
      obtain ⟨w1, e1, a1, b1, at1⟩ := c_play (q := 0) (o := 106) (by decide) (by decide) (by decide) hB h0 h51 hj
      rw [if_pos (by rw [h42]), if_pos h42, hL, e1, bc_eq]
      by_cases ho : overS c P = true
      · rw [if_pos ho, if_pos ho, if_pos (by decide)]
        have : rlS c L P V = P := rlS_over ho
        rw [this] at a1
        exact ⟨w1, rfl, but_tr hb (but_sub b1 (by simp)), a1, at1⟩
      · rw [if_neg ho, if_neg ho, if_pos (by decide)]
        exact ⟨w1, rfl, but_tr hb (but_sub b1 (by simp)), a1, at1⟩
    · have h48 : 48 ≤ x := by
        have := acB_iff.mp hx
        omega
      rw [if_neg (by rw [nI_eq (by omega) (by omega)]; exact h42), if_neg h42, show (48 : Int32) = nI 48 from by decide +kernel, pk_sub h48, hL]
      by_cases hc : x - 48 < c
      · by_cases hz : P (P 14 * c + (x - 48)) = 0
        · rw [if_neg (fun z => z.2 hz)]
          refine ⟨w, ?_, hb, h0, h51⟩
          unfold D_X1_make
          rw [d_canMove h0 hB.2.1 hB.2.2.2.1 hB.2.2.2.2.2 hc, if_pos hz, bc_eq, if_pos rfl, bc_eq, if_pos (by decide)]
        · have hmk := d_make (w := w) (v := 84) (q := 0) (f := w.1 84) (by decide) hB hc hz
          rw [VW_same h0] at hmk
          rw [if_pos ⟨hc, hz⟩, hmk, bc_eq, if_pos (by decide)]
          refine ⟨_, rfl, but_tr hb (but_VW (by simp) (by simp) (by simp) (by simp)), VW_at (by decide), ?_⟩
          obtain ⟨c', P', z⟩ := h51
          exact ⟨c', P', isAt_same z (same_but (T := []) (E := [0, 1, 2, 84]) (but_VW (by simp) (by simp) (by simp) (by simp))) (by decide)⟩
      · rw [if_neg (fun z => hc z.1)]
        refine ⟨w, ?_, hb, h0, h51⟩
        unfold D_X1_make
        rw [d_canMove_no (isAt_c h0) (Or.inr (nI_le (by omega) (by omega))), bc_eq, if_pos rfl, bc_eq, if_pos (by decide)]
theorem c_galoop {k4 : Int32 → Wd → Option (Int32 × Wd)} (m : CR w0 c L P0 hs tx cd kp cl si rw) (okr : okRl rl cd V) (hl : tx.length ≤ 80) (hx : ∀ x ∈ tx, acB x = true) : ∀ (n i fu : Nat) (P : Nat → Nat) (w : Wd), n + i = tx.length → n < fu → okB c L (P 14) P → gC w0 w c P → ∃ w1, L_X11_game_34 k4 fu (nI i) w = k4 (nI (i + (gaF c L V tx n i P).1)) w1 ∧ gC w0 w1 c (gaF c L V tx n i P).2 := by
  intro n
  induction n with
  | zero =>
    intro i fu P w hi hf hB h
    obtain ⟨fu, rfl⟩ : ∃ n', fu = n' + 1 := ⟨fu - 1, by omega⟩
    refine ⟨w, ?_, h⟩
    unfold L_X11_game_34
    rw [h.1.1 80 (by decide), m.2.2.2.2.1.1, if_pos (nI_le (by omega) (by omega))]
    rfl
  | succ n ih =>
    intro i fu P w hi hf hB h
    obtain ⟨fu, rfl⟩ : ∃ n', fu = n' + 1 := ⟨fu - 1, by omega⟩
    have ht : textC w tx := textC_same m.2.2.2.2.1 (same_but (T := []) h.1) (by decide) (by decide)
    have hxi := hx _ (List.mem_of_getElem? (getD_lt (S := tx) (i := i) (by omega)))
    obtain ⟨w1, e1, g1⟩ := c_doAct m okr hB h hxi
    unfold L_X11_game_34 gaF
    rw [ht.1, if_neg (nI_ge (by omega) (by omega)), c_at ht hl (by omega), bc_eq, getD_03 (by omega), e1, bc_eq]
    cases hq : acF c L V (tx.getD i 300) P with
    | none =>
      rw [hq] at g1
      simp only
      rw [if_pos trivial]
      exact ⟨w1, rfl, g1⟩
    | some Q =>
      rw [hq] at g1
      simp only
      rw [if_neg (by decide), bd_eq, nI_1]
      obtain ⟨w2, e2, g2⟩ := ih (i + 1) fu Q w1 (by omega) (by omega) (acF_ok hB hq).1 g1
      refine ⟨w2, ?_, g2⟩
      rw [e2, show i + 1 + (gaF c L V tx n (i + 1) Q).1 = i + ((gaF c L V tx n (i + 1) Q).1 + 1) by omega]
/-! the reference -/
def acR (x : Nat) : Int32 := if x = 42 ∨ x = 47 then nI x else nI (x - 48)
def gM (u0 u : Wd) (P : Nat → Nat) : Prop := sameR (120 :: EW) FW [] [0] u0 u ∧ isM u 120 P ∧ ∃ Q, isM u 130 Q
theorem m_go120 {p : Nat} (h : isM u 120 P) (hc : u.1 119 1 = nI c) (hL : u.1 119 2 = nI L) (hB : okB c L (P 14) P) (hp : p < c) : ∃ u1, D_X12_goMove 120 (nI p) u = some u1 ∧ isM u1 120 (mvP c L (P 14) p P) ∧ sameR [120] [19, 20, 21] [] [] u u1 := by
  have hgo := d_goMove (w := u) (a := 120) (c := c) (L := L) (m := P 14) (g := u.1 119) (p := p) (P := P) (by decide) ln_120 hc hL hB hp
  rw [← h.1, W2_id (by decide)] at hgo
  refine ⟨_, hgo, ⟨W2_a (by decide), mvP_hi hB hp h.2⟩, ⟨fun x hx h9 => W2_ne (by simpa using hx) h9, fun k hk => ?_, fun _ _ => by rw [W2_2], fun _ _ => by rw [W2_2]⟩⟩
  simp only [List.mem_cons, List.not_mem_nil, or_false, not_or] at hk
  rw [W2_M, upd_ne (by omega), upd_ne (by omega), upd_ne (by omega)]
theorem m_act {x : Nat} (n : MR u0 c L P0 hs [] rl kp cl si rw) (okr : okRl rl cd V) (hB : okB c L (P 14) P) (h : gM u0 u P) (hx : acB x = true) : ∃ u1, D_X12_act (acR x) u = some ((match acF c L V x P with | none => 0 | some _ => 1), u1) ∧ gM u0 u1 (match acF c L V x P with | none => P | some Q => Q) := by
  have hx256 : x < 54 ∧ 42 ≤ x := by
    have := acB_iff.mp hx
    omega
  obtain ⟨hb, h0, h130⟩ := h
  have hc1 : u.1 119 1 = nI c := (hb.2.1 1 (by decide)).trans n.1
  have hL : u.1 119 2 = nI L := (hb.2.1 2 (by decide)).trans n.2.1
  have hm := hB.2.2.2.1
  unfold D_X12_act acF
  rw [show (47 : Int32) = nI 47 from by decide +kernel, show (42 : Int32) = nI 42 from by decide +kernel]
  by_cases h47 : x = 47
  · have ea : acR x = nI 47 := by unfold acR; rw [if_pos (Or.inr h47), h47]
    have i2 : isM (wI u 120 14 (nI (1 - P 14))) 120 (uN P 14 (1 - P 14)) := by
      refine ⟨?_, uN_hi (by decide) h0.2⟩
      rw [wI_wR, wR_self, h0.1, upd_eP]
    rw [ea, if_pos rfl, if_pos h47, if_pos (by decide), if_pos (by decide), h0.1, show (14 : Int32).toNatClampNeg = 14 from by decide, eP_at, one_sub hm, bd_eq]
    refine ⟨_, rfl, sameR_tr hb (sameR_r (by simp) (by decide)), i2, ?_⟩
    obtain ⟨Q, hQ⟩ := h130
    exact ⟨Q, isM_same (E := [120]) (F := []) (T := []) (Z := []) hQ (sameR_r (by simp) (by decide)) (by decide) (by decide)⟩
  · by_cases h42 : x = 42
    · have ea : acR x = nI 42 := by unfold acR; rw [if_pos (Or.inl h42), h42]
      obtain ⟨u1, g1, s1, i1, i2⟩ := m_goRule (a := 120) (V := V) (by decide) (by decide) (by decide) rfl hB h0 h130 hc1 hL (ruM_same (ruM_of n okr) hb (by decide) (by decide) (by decide) (by decide) (by decide))
      rw [ea, if_neg (by decide +kernel), if_pos rfl, if_neg h47, if_pos h42, g1, bc_eq]
      by_cases ho : overS c P = true
      · rw [if_pos ho, if_pos ho, if_pos (by decide)]
        have : rlS c L P V = P := rlS_over ho
        rw [this] at i1
        exact ⟨u1, rfl, sameR_tr hb s1, i1, i2⟩
      · rw [if_neg ho, if_neg ho, if_pos (by decide)]
        exact ⟨u1, rfl, sameR_tr hb s1, i1, i2⟩
    · have h48 : 48 ≤ x := by
        have := acB_iff.mp hx
        omega
      have ea : acR x = nI (x - 48) := by unfold acR; rw [if_neg (fun z => z.elim h42 h47)]
      rw [ea, if_neg (by rw [nI_eq (by omega) (by omega)]; omega), if_neg (by rw [nI_eq (by omega) (by omega)]; omega), if_neg h47, if_neg h42]
      by_cases hc : x - 48 < c
      · rw [d_refuses ln_120 h0.1 hc1 hB.1 hB.2.1 hm hB.2.2.2.2.2 hc, bc_eq]
        by_cases hz : P (P 14 * c + (x - 48)) = 0
        · rw [if_neg (show ¬ (x - 48 < c ∧ P (P 14 * c + (x - 48)) ≠ 0) from fun z => z.2 hz), if_neg (show ¬ (0 : Int32) ≤ rfS c P (x - 48) by unfold rfS; rw [if_pos hz]; decide)]
          exact ⟨u, rfl, hb, h0, h130⟩
        · obtain ⟨u1, e1, i1, s1⟩ := m_go120 h0 hc1 hL hB hc
          rw [if_pos (show x - 48 < c ∧ P (P 14 * c + (x - 48)) ≠ 0 from ⟨hc, hz⟩), if_pos (show (0 : Int32) ≤ rfS c P (x - 48) by unfold rfS; rw [if_neg hz]; decide), e1, bv_eq]
          refine ⟨u1, rfl, sameR_tr hb (sameR_sub s1 (by decide) (by decide) (by simp) (by simp)), i1, ?_⟩
          obtain ⟨Q, hQ⟩ := h130
          exact ⟨Q, isM_same hQ s1 (by decide) (by decide)⟩
      · rw [d_refuses_no hc1 hB.1 hB.2.1 (Or.inr (nI_le (by omega) (by omega))), bc_eq, if_neg (show ¬ (x - 48 < c ∧ P (P 14 * c + (x - 48)) ≠ 0) from fun z => hc z.1), if_neg (by decide)]
        exact ⟨u, rfl, hb, h0, h130⟩
theorem m_galoop {k33 : Int32 → Wd → Option (Int32 × Wd)} (n0 : MR u0 c L P0 hs [] rl kp cl si rw) (okr : okRl rl cd V) (hl : tx.length ≤ 60) (hx : ∀ x ∈ tx, acB x = true) (hr : ∀ k, k < tx.length → u0.1 131 k = acR (tx.getD k 300)) : ∀ (n i fu : Nat) (P : Nat → Nat) (u : Wd), n + i = tx.length → n < fu → okB c L (P 14) P → gM u0 u P → ∃ u1, L_X12_game_117 (nI tx.length) k33 fu (nI i) u = k33 (nI (i + (gaF c L V tx n i P).1)) u1 ∧ gM u0 u1 (gaF c L V tx n i P).2 := by
  intro n
  induction n with
  | zero =>
    intro i fu P u hi hf hB h
    obtain ⟨fu, rfl⟩ : ∃ n', fu = n' + 1 := ⟨fu - 1, by omega⟩
    refine ⟨u, ?_, h⟩
    unfold L_X12_game_117
    rw [if_pos (nI_le (by omega) (by omega))]
    rfl
  | succ n ih =>
    intro i fu P u hi hf hB h
    obtain ⟨fu, rfl⟩ : ∃ n', fu = n' + 1 := ⟨fu - 1, by omega⟩
    have hxi := hx _ (List.mem_of_getElem? (getD_lt (S := tx) (i := i) (by omega)))
    obtain ⟨u1, e1, g1⟩ := m_act n0 okr hB h hxi
    unfold L_X12_game_117 gaF
    rw [if_neg (nI_ge (by omega) (by omega)), if_pos (ib_nI (by omega) (by decide)), nI_clamp (by omega), h.1.1 131 (by decide) (by decide), hr i (by omega), e1, bc_eq]
    cases hq : acF c L V (tx.getD i 300) P with
    | none =>
      rw [hq] at g1
      simp only
      rw [if_pos trivial]
      exact ⟨u1, rfl, g1⟩
    | some Q =>
      rw [hq] at g1
      simp only
      rw [if_neg (by decide), bd_eq, nI_1]
      obtain ⟨u2, e2, g2⟩ := ih (i + 1) fu Q u1 (by omega) (by omega) (acF_ok hB hq).1 g1
      refine ⟨u2, ?_, g2⟩
      rw [e2, show i + 1 + (gaF c L V tx n (i + 1) Q).1 = i + ((gaF c L V tx n (i + 1) Q).1 + 1) by omega]
theorem m_gmloop {k3 : Int32 → Wd → Option (Int32 × Wd)} (hx : ∀ x ∈ tx, x < 256) : ∀ (n i fu : Nat) (u : Wd), n + i = min tx.length 60 → n + 1 < fu → rdT u 60 tx → u.1 119 11 = nI i → u.1 119 12 = -1 → (∀ k, k < i → u.1 131 k = acR (tx.getD k 300)) → ∃ X u1, L_X12_game_13 k3 fu (nI i) u = k3 X u1 ∧ sameR [131] [11, 12] [] [] u u1 ∧ (gmW tx n i = none → X = nI (min tx.length 60) ∧ u1.1 119 11 = nI (min tx.length 60) ∧ u1.1 119 12 = -1 ∧ ∀ k, k < min tx.length 60 → u1.1 131 k = acR (tx.getD k 300)) ∧ ∀ j, gmW tx n i = some j → u1.1 119 12 = nI j ∧ u1.1 119 11 = nI j := by
  have h48 : (48 : Int32) = nI 48 := by decide +kernel
  have h6 : (6 : Int32) = nI 6 := by decide +kernel
  intro n
  induction n with
  | zero =>
    intro i fu u hi hf H ha hfi ht
    obtain ⟨fu, rfl⟩ : ∃ n', fu = n' + 1 := ⟨fu - 1, by omega⟩
    have e300 : cT 60 tx i = 300 := by
      unfold cT
      by_cases c1 : i < 60
      · rw [if_pos c1]
        apply getD_ge
        omega
      · rw [if_neg c1]
    refine ⟨nI i, u, ?_, sameR_rf u, fun _ => ⟨by rw [show i = min tx.length 60 by omega], by rw [ha, show i = min tx.length 60 by omega], hfi, fun k h1 => ht k (by omega)⟩, fun j hj => by cases hj⟩
    unfold L_X12_game_13
    rw [fine_y hfi, bc_eq, if_neg (by decide), here_T H ha (by omega), bc_eq, e300, if_pos (by decide)]
  | succ n ih =>
    intro i fu u hi hf H ha hfi ht
    obtain ⟨fu, rfl⟩ : ∃ n', fu = n' + 1 := ⟨fu - 1, by omega⟩
    have ec : cT 60 tx i = tx.getD i 300 := if_pos (by omega)
    have h256 : tx.getD i 300 < 256 := hx _ (List.mem_of_getElem? (getD_lt (by omega)))
    have hhv : hv (cT 60 tx i) = nI (tx.getD i 300) := by
      rw [ec]
      exact if_pos h256
    have hne : ¬ nI (tx.getD i 300) = -1 := by
      intro z
      have := congrArg Int32.toInt z
      rw [nI_toInt (by omega)] at this
      have h2 : (-1 : Int32).toInt = -1 := by decide
      omega
    -- a sign that is an act
    have good : acB (tx.getD i 300) = true → ∀ u', sameR [131] [11, 12] [] [] u u' → u'.1 119 11 = nI (i + 1) → u'.1 119 12 = -1 → (∀ k, k < i → u'.1 131 k = u.1 131 k) → u'.1 131 i = acR (tx.getD i 300) → ∃ X u1, J_X12_game_j83_2 (L_X12_game_13 k3 fu) (nI i) u' = k3 X u1 ∧ sameR [131] [11, 12] [] [] u u1 ∧ (gmW tx (n + 1) i = none → X = nI (min tx.length 60) ∧ u1.1 119 11 = nI (min tx.length 60) ∧ u1.1 119 12 = -1 ∧ ∀ k, k < min tx.length 60 → u1.1 131 k = acR (tx.getD k 300)) ∧ ∀ j, gmW tx (n + 1) i = some j → u1.1 119 12 = nI j ∧ u1.1 119 11 = nI j := by
      intro hac u' s1 f11 f12 hk hi1
      obtain ⟨X, u1, g1, g2, g3, g4⟩ := ih (i + 1) fu u' (by omega) (by omega) (rdT_same H s1 (by decide) (by decide) (by decide) (by simp)) f11 f12 (fun k h1 => by
        by_cases e : k = i
        · rw [e]; exact hi1
        · rw [hk k (by omega)]
          exact ht k (by omega))
      have e : gmW tx (n + 1) i = gmW tx n (i + 1) := if_pos hac
      rw [e]
      refine ⟨X, u1, ?_, sameR_tr s1 g2, g3, g4⟩
      unfold J_X12_game_j83_2
      rw [bd_eq, nI_1, g1]
    have wr : ∀ (v : Int32) (k : Nat), k < i → (wI u 131 i v).1 131 k = u.1 131 k := fun v k h => wI_at_ne (by omega)
    -- the sign is taken as it is
    have asis : (tx.getD i 300 = 42 ∨ tx.getD i 300 = 47) → ∃ X u1, J_X12_game_j46_1 (nI i) (J_X12_game_j83_2 (L_X12_game_13 k3 fu) (nI i)) u = k3 X u1 ∧ sameR [131] [11, 12] [] [] u u1 ∧ (gmW tx (n + 1) i = none → X = nI (min tx.length 60) ∧ u1.1 119 11 = nI (min tx.length 60) ∧ u1.1 119 12 = -1 ∧ ∀ k, k < min tx.length 60 → u1.1 131 k = acR (tx.getD k 300)) ∧ ∀ j, gmW tx (n + 1) i = some j → u1.1 119 12 = nI j ∧ u1.1 119 11 = nI j := by
      intro h
      obtain ⟨X, u1, g1, g2⟩ := good (acB_iff.mpr (by omega)) (wI (wI u 131 i (nI (tx.getD i 300))) 119 11 (nI (i + 1))) (sameR_tr (sameR_r (by simp) (by decide)) (sameR_f (by simp))) wI_at (by rw [wI_at_ne (by decide), wI_r (by decide)]; exact hfi) (fun k hk => by rw [wI_r (by decide)]; exact wr _ k hk) (by rw [wI_r (by decide), wI_at]; unfold acR; rw [if_pos h])
      refine ⟨X, u1, ?_, g2⟩
      unfold J_X12_game_j46_1
      rw [here_T H ha (by omega), bc_eq, hhv, if_pos (ib_nI (by omega) (by decide)), bd_eq, bd_eq, nI_clamp (by omega), wI_r (by decide), ha, nI_1, g1]
    generalize hR : L_X12_game_13 k3 fu = R at good asis
    unfold L_X12_game_13
    rw [fine_y hfi, bc_eq, if_neg (by decide), here_T H ha (by omega), bc_eq, hhv, if_neg hne, here_T H ha (by omega), bc_eq, bd_eq, bd_eq, hhv, hR, show (42 : Int32) = nI 42 from by decide +kernel, show (47 : Int32) = nI 47 from by decide +kernel]
    by_cases h42 : tx.getD i 300 = 42
    · rw [if_pos (by rw [h42])]
      exact asis (Or.inl h42)
    · rw [if_neg (by rw [nI_eq (by omega) (by omega)]; exact h42), here_T H ha (by omega), bc_eq, hhv]
      by_cases h47 : tx.getD i 300 = 47
      · rw [if_pos (by rw [h47])]
        exact asis (Or.inr h47)
      · have ho := oneOf_T H ha hfi (by omega) (a := 48) (m := 6) (by decide) (by decide) (by decide)
        rw [ec] at ho
        rw [if_neg (by rw [nI_eq (by omega) (by omega)]; exact h47), h48, h6, ho]
        by_cases c1 : 48 ≤ tx.getD i 300 ∧ tx.getD i 300 < 48 + 6
        · rw [if_pos c1, bc_eq, if_pos (ib_nI (by omega) (by decide)), bd_eq, nI_clamp (by omega)]
          exact good (acB_iff.mpr (by omega)) _ (sameR_tr (sameR_f (by simp)) (sameR_r (by simp) (by decide))) (by rw [wI_r (by decide), wI_at]) (by rw [wI_r (by decide), wI_at_ne (by decide)]; exact hfi) (fun k hk => by rw [wI_at_ne (by omega), wI_r (by decide)]) (by rw [wI_at]; unfold acR; rw [if_neg (fun z => z.elim h42 h47)])
        · have e : gmW tx (n + 1) i = some i := if_neg (by rw [acB_iff]; omega)
          obtain ⟨fu, rfl⟩ : ∃ n', fu = n' + 1 := ⟨fu - 1, by omega⟩
          rw [if_neg c1, bc_eq, if_pos (ib_nI (by omega) (by decide)), bd_eq, nI_clamp (by omega), e]
          have f12 : (wI (wI u 119 12 (nI i)) 131 i 0).1 119 12 = nI i := by rw [wI_r (by decide), wI_at]
          refine ⟨nI (i + 1), wI (wI u 119 12 (nI i)) 131 i 0, ?_, sameR_tr (sameR_f (by simp)) (sameR_r (by simp) (by decide)), fun h => by (cases h), fun j hj => ?_⟩
          · unfold J_X12_game_j83_2
            rw [bd_eq, nI_1, ← hR]
            unfold L_X12_game_13
            rw [fine_n f12 (by omega), bc_eq, if_pos rfl]
          · cases hj
            exact ⟨f12, by rw [wI_r (by decide), wI_at_ne (by decide)]; exact ha⟩
end GA
theorem t_game : Two D_X11_game D_X12_game := by
  intro w c L P hs tx rl cd V kp cl si rw B hBB m ok okr
  have hB := okB_of ok
  have hl12 := ok.2.2.2.2.1.1
  obtain ⟨hl, hx⟩ := ok.2.2.2.2.2.1
  have ht := m.2.2.2.2.1
  have hw := c_gmloop ht hl hx (min tx.length 60) 0 FU (by omega) (by unfold FU; omega)
  rw [nI_0] at hw
  have t1 : ∀ v : Wd, textC (wI v 80 1 0) [] := fun v => ⟨by rw [wI_at]; rfl, fun i x h => by simp at h⟩
  have hM : ∀ u, MR u c L P hs tx rl kp cl si rw → ∃ u1 X, D_X12_game u = J_X12_game_x89_6 X u1 ∧ MR u1 c L P hs [] rl kp cl si rw ∧ onM u u1 ∧ rdT u1 60 tx ∧ (gmW tx (min tx.length 60) 0 = none → X = nI (min tx.length 60) ∧ u1.1 119 11 = nI (min tx.length 60) ∧ u1.1 119 12 = -1 ∧ ∀ k, k < min tx.length 60 → u1.1 131 k = acR (tx.getD k 300)) ∧ ∀ j, gmW tx (min tx.length 60) 0 = some j → u1.1 119 12 = nI j ∧ u1.1 119 11 = nI j := by
    intro u n
    have v := n.2.2.2.2.1
    obtain ⟨u1, e1, H1, a1, f1, tt, s1⟩ := begin_T (u := wI u 119 7 0) (T := 60) ⟨by rw [wI_at_ne (by decide)]; exact v.1, fun i x hi => by rw [wI_r (by decide)]; exact v.2 i x hi⟩ hl hx (by decide)
    obtain ⟨n1, o1⟩ := MR_text n (sameR_tr (sameR_f (k := 7) (v := 0) (by simp)) (sameR_sub s1 (by simp) (by decide) (by simp) (by simp))) tt
    obtain ⟨X, u2, g2, s2, g3, g4⟩ := m_gmloop (k3 := J_X12_game_x89_6) hx (min tx.length 60) 0 FU u1 (by omega) (by unfold FU; omega) H1 a1 f1 (fun k h1 => by omega)
    rw [nI_0] at g2
    obtain ⟨n2, o2⟩ := MR_q0 n1 (qM_sub (qM_any (F := [11, 12]) (T := []) s2 (by decide) (by decide) (by simp)) (by decide) (by simp))
    refine ⟨u2, X, ?_, n2, onM_tr o1 o2, rdT_same H1 s2 (by decide) (by decide) (by decide) (by simp), g3, g4⟩
    unfold D_X12_game
    rw [bd_eq, show (60 : Int32) = nI 60 from by decide +kernel, e1, bv_eq, g2]
  -- a wrong sign
  have bad : ∀ j, j ≤ 60 → D_X11_wrongInGame w = some (nI j, w) → (∀ u, MR u c L P hs tx rl kp cl si rw → ∃ u1, D_X12_game u = some (-1 - nI j, u1) ∧ MR u1 c L P hs [] rl kp cl si rw ∧ onM u u1) → ∃ (r : Int32) (c' L' : Nat) (P' : Nat → Nat) (hs' : List (Nat → Nat)) (tx' rl' : List Nat) (cd' : List Int32) (V' : (Nat → Int32) → Int32) (kp' : Nat → Option (Nat → Nat)) (cl' si' : List (Int32 × Int32)) (rw' : List Int64), okS c' L' P' hs' tx' kp' cl' si' rw' (B + 108) ∧ okRl rl' cd' V' ∧ (∃ w1, D_X11_game w = some (r, w1) ∧ CR w1 c' L' P' hs' tx' cd' kp' cl' si' rw' ∧ onC w w1) ∧ ∀ u, MR u c L P hs tx rl kp cl si rw → cameM B u → ∃ u1, D_X12_game u = some (r, u1) ∧ MR u1 c' L' P' hs' tx' rl' kp' cl' si' rw' ∧ onM0 u u1 ∧ cameM (B + 108) u1 := by
    intro j hj hwj hr
    obtain ⟨k1, k2⟩ := CR_text m (same_wI (by simp)) (t1 w)
    have hne : ¬ nI j = -1 := by
      intro z
      have := congrArg Int32.toInt z
      rw [nI_toInt (by omega)] at this
      have h2 : (-1 : Int32).toInt = -1 := by decide
      omega
    refine ⟨-1 - nI j, c, L, P, hs, [], rl, cd, V, kp, cl, si, rw, okS_text hBB ok (by simp) (by simp), okr, ⟨_, ?_, k1, k2⟩, fun u n hcm => ?_⟩
    · unfold D_X11_game
      rw [hwj, bc_eq, if_neg hne]
      unfold D_X9_clear
      rw [bd_eq, bv_eq]
    · obtain ⟨u1, g1, n1, o1⟩ := hr u n
      exact ⟨u1, g1, n1, came_on hcm o1⟩
  cases hb : gmW tx (min tx.length 60) 0 with
  | some j =>
    rw [hb] at hw
    have hj := gmW_some _ _ _ hb
    refine bad j (by omega) hw (fun u n => ?_)
    obtain ⟨u1, X, g1, n1, o1, H1, g3, g4⟩ := hM u n
    obtain ⟨f12, f11⟩ := g4 j hb
    refine ⟨u1, ?_, n1, o1⟩
    rw [g1]
    unfold J_X12_game_x89_6
    rw [(right_T H1 f11 (by omega)).2.2 j (by omega) f12, bc_eq, if_pos rfl, f12]
  | none =>
    rw [hb] at hw
    simp only at hw
    by_cases h60 : 60 < tx.length
    · rw [if_pos h60] at hw
      refine bad 60 (Nat.le_refl _) hw (fun u n => ?_)
      obtain ⟨u1, X, g1, n1, o1, H1, g3, g4⟩ := hM u n
      obtain ⟨-, f11, f12, -⟩ := g3 hb
      rw [show min tx.length 60 = 60 by omega] at f11
      obtain ⟨n2, o2⟩ := MR_q0 n1 (qM_f (k := 12) (v := nI 60) (by decide))
      refine ⟨wI u1 119 12 (nI 60), ?_, n2, onM_tr o1 o2⟩
      rw [g1]
      unfold J_X12_game_x89_6
      rw [(right_T H1 f11 (by omega)).2.1 f12 h60, bc_eq, if_pos rfl, wI_at]
    · rw [if_neg h60] at hw
      have hmin : min tx.length 60 = tx.length := by omega
      rw [hmin] at hb
      have hac : ∀ x ∈ tx, acB x = true := by
        intro x hxm
        obtain ⟨i, hi, e⟩ := List.mem_iff_getElem.mp hxm
        have := gmW_none _ _ hb i (Nat.zero_le _) (by omega)
        rw [List.getD_eq_getElem?_getD, List.getElem?_eq_getElem hi] at this
        rw [← e]
        exact this
      obtain ⟨c3, P3, z3⟩ := m.2.2.1 3 (by decide)
      obtain ⟨m1, o1⟩ := CR_q0 m (qC_at (r := 3) (by decide) (pW_but (w := w) (q := 3) (c := c) (P := P)) (by decide) (by decide) ⟨_, _, pW_at _ _ _ _⟩)
      obtain ⟨w2, e2, g2⟩ := c_galoop (k4 := J_X11_game_x66_3) m1 okr hl hac tx.length 0 FU P (pW w 3 c P) (by omega) (by unfold FU; omega) hB ⟨but_rf _, m1.1, m1.2.2.1 51 (by decide)⟩
      obtain ⟨y1, y2, y3⟩ := gaF_ok (V := V) (tx := tx) tx.length 0 P hB
      rw [nI_0, Nat.zero_add] at e2
      have hMg : ∀ u, MR u c L P hs tx rl kp cl si rw → ∃ u2 u0, D_X12_game u = J_X12_game_x141_5 (nI tx.length) (nI (gaF c L V tx tx.length 0 P).1) u2 ∧ MR u2 c L (gaF c L V tx tx.length 0 P).2 hs [] rl kp cl si rw ∧ onM u u2 ∧ isM u2 128 P ∧ u0 = u2 := by
        intro u n
        obtain ⟨u1, X, g1, n1, o1, H1, g3, g4⟩ := hM u n
        rw [hmin] at g3
        obtain ⟨hX, f11, f12, hrow⟩ := g3 hb
        obtain ⟨u2, l1, i1, s1⟩ := m_lay (a := 120) (b := 128) ln_120 (by decide) (by decide) n1.2.2.1 (arrM_of n1)
        obtain ⟨n2, o2⟩ := MR_q0 n1 (qM_sub (qM_at (r := 128) s1 (by decide) (by decide) (by decide) ⟨_, i1⟩) (by decide) (by decide))
        obtain ⟨u3, l3, gg⟩ := m_galoop (k33 := J_X12_game_x141_5 (nI tx.length)) n2 okr (by omega) hac (fun k hk => by rw [s1.1 131 (by decide) (by decide)]; exact hrow k hk) tx.length 0 FU P u2 (by omega) (by unfold FU; omega) hB ⟨sameR_rf _, n2.2.2.1, arrM_of n2 130 (by decide)⟩
        rw [nI_0, Nat.zero_add] at l3
        obtain ⟨n3, o3⟩ := MR_n0 n2 ⟨sameR_sub gg.1 (by decide) (by decide) (by simp) (by simp), fun z => arrM_at (r := 130) z gg.1 (by decide) gg.2.2⟩ gg.2.1
        refine ⟨u3, u3, ?_, n3, onM_tr o1 (onM_tr o2 o3), isM_same i1 gg.1 (by decide) (by decide), rfl⟩
        rw [g1]
        unfold J_X12_game_x89_6
        rw [(right_T H1 f11 (by omega)).1 f12 (Nat.le_refl _), bc_eq, if_neg (by decide), l1, bv_eq, hX, l3]
      generalize hD : (gaF c L V tx tx.length 0 P).1 = D at e2 y3 hMg
      generalize hQ : (gaF c L V tx tx.length 0 P).2 = Q at g2 y1 y2 hMg
      obtain ⟨gb, ga, g51⟩ := g2
      obtain ⟨m2, o2⟩ := CR_n0 m1 (qC_at2 (r := 0) (s := 51) (by decide) (by decide) gb (by decide) (by decide) ⟨_, _, ga⟩ g51) ga
      have a3 : isAt w2 3 c P := isAt_same (pW_at _ _ _ _) (same_but (T := []) gb) (by decide)
      generalize hhs : (if D = 0 then hs else pushS hs P) = hs'
      obtain ⟨w3, e3, m3, o3⟩ : ∃ w3, J_X11_game_x66_3 (nI D) w2 = J_X11_game_j81_2 (nI D) w3 ∧ CR w3 c L Q hs' tx cd kp cl si rw ∧ onC w2 w3 := by
        unfold J_X11_game_x66_3
        rw [bd_eq]
        by_cases hz : D = 0
        · rw [if_pos hz] at hhs
          rw [if_pos (by rw [hz]; decide)]
          exact ⟨w2, rfl, hhs ▸ m2, onC_rf _⟩
        · rw [if_neg hz] at hhs
          obtain ⟨w3, p1, p2, p3, p4⟩ := CR_push (r := 3) (by decide) (by decide) m2 a3
          rw [if_neg (by rw [nI_le0 (by omega)]; exact hz), p1, bv_eq]
          exact ⟨w3, rfl, hhs ▸ p2, p3⟩
      generalize hF : (if tx.length ≤ D then (0 : Int64) else 1) = F
      obtain ⟨w4, t2, t3, t4⟩ := d_tell2 w3 F (nI (Q 14)).toInt64
      obtain ⟨m4, o4⟩ := CR_q m3 (qC_hi t4 (by decide) (by decide) (by decide)) t3
      obtain ⟨m5, o5⟩ := CR_text m4 (same_wI (k := 1) (v := 0) (by simp)) (t1 w4)
      have hlen : hs'.length ≤ 12 := by
        rw [← hhs]
        split
        · exact hl12
        · exact (pushS_len hl12).1
      have hmem : ∀ R ∈ hs', R = P ∨ R ∈ hs := by
        intro R hR
        rw [← hhs] at hR
        split at hR
        · exact Or.inr hR
        · exact push_mem hR
      have okp := okS_pos (P' := Q) (hs' := hs') (rw' := [F, (nI (Q 14)).toInt64]) hBB ok (by simp) y1.2.2.2.1 (by have := ok.2.2.2.1.2; omega) hlen hmem
      have okp' : okS c L Q hs' [] kp cl si [F, (nI (Q 14)).toInt64] (B + 108) := by
        obtain ⟨a1, a2, a3, a4, a5, -, a7⟩ := okp
        exact ⟨a1, a2, a3, a4, a5, ⟨by simp, by simp⟩, a7⟩
      refine ⟨nI D, c, L, Q, hs', [], rl, cd, V, kp, cl, si, _, okp', okr, ⟨_, ?_, m5, onC_tr o1 (onC_tr o2 (onC_tr o3 (onC_tr o4 o5)))⟩, fun u n hcm => ?_⟩
      · unfold D_X11_game D_X11_wrongInGame
        rw [hw, bc_eq, if_pos rfl, d_take (by decide) (by decide) (by decide) z3 m.1, bv_eq, e2, e3]
        unfold J_X11_game_j81_2 J_X11_game_j101_1
        rw [bd_eq, m3.2.2.2.2.1.1]
        have fin : ∀ x : Int64, x = F → (bv (D_X3_tell_ x ((w3.1 0 3).toInt64) w3) fun w20 => bv (D_X9_clear w20) fun w21 => some (nI D, w21)) = some (nI D, wI w4 80 1 0) := by
          intro x hxx
          rw [hxx, isAt_m m3.1, t2, bv_eq]
          unfold D_X9_clear
          rw [bd_eq, bv_eq]
        by_cases hle : tx.length ≤ D
        · rw [if_pos (nI_le hle (by omega))]
          rw [if_pos hle] at hF
          exact fin 0 hF
        · rw [if_neg (nI_ge (by omega) (by omega))]
          rw [if_neg hle] at hF
          exact fin 1 hF
      · obtain ⟨u2, -, g1, n2, ou, i128, -⟩ := hMg u n
        obtain ⟨u3, q3, n3, ou3⟩ : ∃ u3, J_X12_game_x141_5 (nI tx.length) (nI D) u2 = J_X12_game_j153_4 (nI D) (nI tx.length) u3 ∧ MR u3 c L Q hs' [] rl kp cl si rw ∧ onM u2 u3 := by
          unfold J_X12_game_x141_5
          rw [bd_eq]
          by_cases hz : D = 0
          · rw [if_pos hz] at hhs
            rw [if_pos (by rw [hz]; decide)]
            exact ⟨u2, rfl, hhs ▸ n2, ⟨fun _ _ => rfl, fun _ _ => rfl, rfl⟩⟩
          · rw [if_neg hz] at hhs
            obtain ⟨u3, p1, p2, p3, p4⟩ := MR_push (Or.inr rfl) n2 hl12 i128
            rw [if_neg (by rw [nI_le0 (by omega)]; exact hz), p1, bv_eq]
            exact ⟨u3, rfl, hhs ▸ p2, p3⟩
        obtain ⟨u4, t5, t6, t7⟩ := d_tellM (row0M u3) (by decide) F
        obtain ⟨u5, t8, t9, t10⟩ := d_tellM t6 (by simp) (nI (Q 14)).toInt64
        obtain ⟨n5, ou5⟩ := MR_q n3 (qM_tr (qM_f (k := 6) (v := 0) (by decide)) (qM_tr (qM_tell t7) (qM_tell t10))) t9
        refine ⟨u5, ?_, n5, came_on hcm (onM_tr ou (onM_tr ou3 ou5))⟩
        have r4 : u4.1 120 = eP Q := by rw [t7.1.1 120 (by decide), wI_r (by decide), n3.2.2.1.1]
        rw [g1, q3]
        unfold J_X12_game_j153_4 J_X12_game_j169_3
        rw [bd_eq, bd_eq]
        have fin : ∀ x : Int64, x = F → (bv (D_X12_tell x (wI u3 119 6 0)) fun w48 => if ib 14 16 then (bv (D_X12_tell ((w48.1 120 (14 : Int32).toNatClampNeg).toInt64) w48) fun w49 => some (nI D, w49)) else none) = some (nI D, u5) := by
          intro x hxx
          rw [hxx, t5, bv_eq, if_pos (by decide), r4, show (14 : Int32).toNatClampNeg = 14 from by decide, eP_at, t8, bv_eq]
        by_cases hle : tx.length ≤ D
        · rw [if_pos (nI_le hle (by omega))]
          rw [if_pos hle] at hF
          exact fin 0 hF
        · rw [if_neg (nI_ge (by omega) (by omega))]
          rw [if_neg hle] at hF
          exact fin 1 hF
