/-! class and reference read every text alike: the reference's descent goes the machine's way -/
def topLt (W : List Nat) (s : Nat) : Prop := ∀ a, W.head? = some a → str a < s
theorem topLt_c {a s : Nat} {W : List Nat} (h : str a < s) : topLt (a :: W) s := by
  intro b hb
  cases hb
  exact h
theorem topLt_m {s s' : Nat} {W : List Nat} (h : topLt W s) (hs : s ≤ s') : topLt W s' := fun a ha => by
  have := h a ha
  omega
/-- a thing has been read, at j; what it is worth is v -/
def pox (S : List Nat) (f : Nat → Int32) (lv d : Nat) (W : List Nat) (O : List Int32) (cm : Nat → Bool) (j : Nat) (v : Int32) (dg : Nat) (cm' : Nat → Bool) : Prop := ∃ pe O' cs V, cl S j = some (false, dg, d, cm', pe ++ W, O') ∧ (∀ a ∈ pe, lv ≤ str a) ∧ O' ++ pe.map ng = O ++ cs ∧ Blk cs V ∧ v = V f ∧ (∀ k, k < d → cm' k = cm k) ∧ (48 ≤ ch S j → ch S j ≤ 57 → dg = 0 ∨ dg = 3)
def PF (S : List Nat) (f : Nat → Int32) (w : Wd) (t d i : Nat) (W : List Nat) (O : List Int32) (cm : Nat → Bool) (res : Option (Int32 × Wd)) : Prop := (∃ v j dg cm', res = some (v, RW w j (-1)) ∧ i < j ∧ pox S f (t + 1) d W O cm j v dg cm' ∧ (1 ≤ t → cm' d = cm d) ∧ (t ≤ 2 → ch S j ≠ 42 ∧ ch S j ≠ 47) ∧ (t ≤ 1 → ch S j ≠ 43 ∧ ch S j ≠ 45) ∧ (t = 0 → (ch S j = 60 ∨ ch S j = 61 ∨ ch S j = 62) → cm' d = true)) ∨ (∃ v j q, res = some (v, RW w j (nI q)) ∧ flS S q)
def fAsk (w : Wd) (k : Nat) : Int32 := if w.1 119 17 = 0 then 0 else w.1 126 (min k 6)
def IHn (S : List Nat) (w : Wd) (n : Nat) : Prop := ∀ t d i dg cm W O, t ≤ 3 → d ≤ 4 → (40 - i) + 3 * (4 - d) + (3 - t) + 1 ≤ n → cl S i = some (true, dg, d, cm, W, O) → (t ≤ 2 → topLt W (t + 1)) → (t = 0 → cm d = false) → PF S (fAsk w) w t d i W O cm (E_X12_held n t (nI d) (RW w i (-1)))
theorem fl_100 {S : List Nat} {q : Nat} (h : flS S q) : q ≤ 100 := by
  obtain ⟨r, h1, -⟩ := h
  have := (cl_le h1).2
  omega
theorem pox_bin {S : List Nat} {f : Nat → Int32} {lv s d : Nat} {W : List Nat} {O : List Int32} {cm cm1 cm2 : Nat → Bool} {j2 dg2 l2 : Nat} {v v2 : Int32} (hs : okOp s) (hl : lv ≤ str s) (hl2 : lv ≤ l2) {pe : List Nat} {O' cs : List Int32} {V : (Nat → Int32) → Int32} (h3 : O' ++ pe.map ng = O ++ cs) (h4 : Blk cs V) (h5 : v = V f) (hcm : ∀ k, k < d → cm1 k = cm k) (h : pox S f l2 d (s :: W) (O' ++ pe.map ng) cm1 j2 v2 dg2 cm2) : pox S f lv d W O cm j2 (bindS s v v2) dg2 cm2 := by
  obtain ⟨p2, O2, c2, V2, g1, g2, g3, g4, g5, g6, g7⟩ := h
  refine ⟨p2 ++ [s], O2, cs ++ (c2 ++ [-(nI s)]), fun f => bindS s (V f) (V2 f), ?_, ?_, ?_, blk_bin hs h4 g4, by rw [h5, g5], fun k hk => (g6 k hk).trans (hcm k hk), g7⟩
  · rw [g1]
    simp
  · intro a ha
    rcases List.mem_append.mp ha with ha | ha
    · have := g2 a ha
      omega
    · rw [List.mem_singleton.mp ha]
      exact hl
  · rw [List.map_append, ← List.append_assoc, g3, h3]
    show O ++ cs ++ c2 ++ [-(nI s)] = _
    simp
section PA
variable {w : Wd} {S : List Nat}
theorem loop_p (H : rdH w S) {n d i : Nat} {cm : Nat → Bool} {W : List Nat} {O : List Int32} (ih : IHn S w n) (hd : d ≤ 4) (hn : (40 - i) + 3 * (4 - d) + 1 ≤ n) (hW : topLt W 3) : ∀ (m j : Nat) (v : Int32) (dg : Nat) (cm' : Nat → Bool) (fu : Nat), 40 - j ≤ m → m < fu → i < j → pox S (fAsk w) 3 d W O cm j v dg cm' → cm' d = cm d → PF S (fAsk w) w 2 d i W O cm (L_X12_product_6 (E_X12_held n) (nI d) J_X12_product_x91_4 fu v (RW w j (-1))) := by
  intro m
  induction m with
  | zero =>
    intro j v dg cm' fu hj hfu hij hp hcd
    obtain ⟨fu, rfl⟩ : ∃ n', fu = n' + 1 := ⟨fu - 1, by omega⟩
    have hj40 : j ≤ 40 := by obtain ⟨_, _, _, _, h1, -⟩ := hp; exact (cl_le h1).2
    have e3 : ch S j = 300 := by unfold ch; rw [if_neg (by omega)]
    refine Or.inl ⟨v, j, dg, cm', ?_, hij, hp, fun _ => hcd, fun _ => by rw [e3]; decide, fun _ => by rw [e3]; decide, fun h => absurd h (by decide)⟩
    unfold L_X12_product_6
    rw [fine_ok, bc_eq, if_neg (by decide), here_ok H hj40, bc_eq, bd_eq, if_neg (by rw [hv_eq (show (42 : Int32) = nI 42 from by decide +kernel) (by decide), e3]; decide), here_ok H hj40, bc_eq, if_neg (by rw [hv_eq (show (47 : Int32) = nI 47 from by decide +kernel) (by decide), e3]; decide)]
    rfl
  | succ m ihm =>
    intro j v dg cm' fu hj hfu hij hp hcd
    obtain ⟨fu, rfl⟩ : ∃ n', fu = n' + 1 := ⟨fu - 1, by omega⟩
    obtain ⟨pe, O', cs, V, h1, h2, h3, h4, h5, h6, h7⟩ := id hp
    have hj40 := (cl_le h1).2
    have step : ∀ s, (s = 42 ∨ s = 47) → ch S j = s → (∃ v2 j2 dg2 cm2, E_X12_held n 3 (nI d) (RW w (j + 1) (-1)) = some (v2, RW w j2 (-1)) ∧ j < j2 ∧ j < 40 ∧ pox S (fAsk w) 3 d W O cm j2 (bindS s v v2) dg2 cm2 ∧ cm2 d = cm d) ∨ (∃ v2 j2 q, E_X12_held n 3 (nI d) (RW w (j + 1) (-1)) = some (v2, RW w j2 (nI q)) ∧ j < 40 ∧ flS S q) := by
      intro s hs hc
      have hss : str s = 3 ∧ okOp s := by rcases hs with h | h <;> subst h <;> exact ⟨rfl, by unfold okOp; omega⟩
      obtain ⟨hj', -⟩ := ch_at hc (by omega)
      have hcl := cl_step h1 hc (by omega) (acc_op (by omega))
      rw [hss.1, flush_app hW pe O' h2] at hcl
      rcases ih 3 d (j + 1) 0 cm' (s :: W) (O' ++ pe.map ng) (by decide) hd (by omega) hcl (fun h => absurd h (by decide)) (fun h => absurd h (by decide)) with ⟨v2, j2, dg2, cm2, g1, g2, g3, g4, g5, -⟩ | ⟨v2, j2, q, g1, g2⟩
      · exact Or.inl ⟨v2, j2, dg2, cm2, g1, by omega, hj', pox_bin hss.2 (by omega) (by decide) h3 h4 h5 h6 g3, (g4 (by decide)).trans hcd⟩
      · exact Or.inr ⟨v2, j2, q, g1, hj', g2⟩
    have bad : ∀ (x : Int32) j2 q fu', 0 < fu' → flS S q → PF S (fAsk w) w 2 d i W O cm (L_X12_product_6 (E_X12_held n) (nI d) J_X12_product_x91_4 fu' x (RW w j2 (nI q))) := by
      intro x j2 q fu' hf hq
      obtain ⟨fu', rfl⟩ : ∃ n', fu' = n' + 1 := ⟨fu' - 1, by omega⟩
      refine Or.inr ⟨x, j2, q, ?_, hq⟩
      unfold L_X12_product_6
      rw [fine_no (fl_100 hq), bc_eq, if_pos rfl]
      rfl
    unfold L_X12_product_6
    rw [fine_ok, bc_eq, if_neg (by decide), here_ok H hj40, bc_eq, bd_eq]
    by_cases c1 : ch S j = 42
    · rw [if_pos ((hv_eq (by decide +kernel) (by decide)).mpr c1)]
      unfold J_X12_product_j31_3
      rw [here_ok H hj40, bc_eq, bd_eq, if_pos ((hv_eq (by decide +kernel) (by decide)).mpr c1)]
      unfold J_X12_product_j45_2
      rw [RW_11, nI_1, RW_set11, bd_eq]
      rcases step 42 (Or.inl rfl) c1 with ⟨v2, j2, dg2, cm2, g1, g2, g3, g4, g5⟩ | ⟨v2, j2, q, g1, g2, g3⟩
      · rw [g1, bc_eq, bd_eq, if_neg (by decide)]
        exact ihm j2 _ dg2 cm2 fu (by omega) (by omega) (by omega) g4 g5
      · rw [g1, bc_eq, bd_eq, if_neg (by decide)]
        exact bad _ j2 q fu (by omega) g3
    · rw [if_neg (fun z => c1 ((hv_eq (by decide +kernel) (by decide)).mp z)), here_ok H hj40, bc_eq]
      by_cases c2 : ch S j = 47
      · rw [if_pos ((hv_eq (by decide +kernel) (by decide)).mpr c2)]
        unfold J_X12_product_j31_3
        rw [here_ok H hj40, bc_eq, bd_eq, if_neg (fun z => c1 ((hv_eq (by decide +kernel) (by decide)).mp z))]
        unfold J_X12_product_j45_2
        rw [RW_11, nI_1, RW_set11, bd_eq]
        rcases step 47 (Or.inr rfl) c2 with ⟨v2, j2, dg2, cm2, g1, g2, g3, g4, g5⟩ | ⟨v2, j2, q, g1, g2, g3⟩
        · rw [g1, bc_eq, bd_eq, if_pos rfl]
          have hb : bindS 47 v v2 = if v2 = 0 then 0 else v / v2 := rfl
          rw [hb] at g4
          by_cases hz : v2 = 0
          · rw [if_pos hz]
            rw [if_pos hz] at g4
            exact ihm j2 _ dg2 cm2 fu (by omega) (by omega) (by omega) g4 g5
          · rw [if_neg hz, if_pos hz]
            rw [if_neg hz] at g4
            exact ihm j2 _ dg2 cm2 fu (by omega) (by omega) (by omega) g4 g5
        · rw [g1, bc_eq, bd_eq, if_pos rfl]
          by_cases hz : v2 = 0
          · rw [if_pos hz]
            exact bad _ j2 q fu (by omega) g3
          · rw [if_neg hz, if_pos hz]
            exact bad _ j2 q fu (by omega) g3
      · rw [if_neg (fun z => c2 ((hv_eq (by decide +kernel) (by decide)).mp z))]
        exact Or.inl ⟨v, j, dg, cm', rfl, hij, hp, fun _ => hcd, fun _ => ⟨c1, c2⟩, fun h => absurd h (by decide), fun h => absurd h (by decide)⟩
theorem loop_s (H : rdH w S) {n d i : Nat} {cm : Nat → Bool} {W : List Nat} {O : List Int32} (ih : IHn S w n) (hd : d ≤ 4) (hn : (40 - i) + 3 * (4 - d) + 2 ≤ n) (hW : topLt W 2) : ∀ (m j : Nat) (v : Int32) (dg : Nat) (cm' : Nat → Bool) (fu : Nat), 40 - j ≤ m → m < fu → i < j → pox S (fAsk w) 2 d W O cm j v dg cm' → cm' d = cm d → (ch S j ≠ 42 ∧ ch S j ≠ 47) → PF S (fAsk w) w 1 d i W O cm (L_X12_sum_6 (E_X12_held n) (nI d) J_X12_sum_x82_4 fu v (RW w j (-1))) := by
  intro m
  induction m with
  | zero =>
    intro j v dg cm' fu hj hfu hij hp hcd h47
    obtain ⟨fu, rfl⟩ : ∃ n', fu = n' + 1 := ⟨fu - 1, by omega⟩
    have hj40 : j ≤ 40 := by obtain ⟨_, _, _, _, h1, -⟩ := hp; exact (cl_le h1).2
    have e3 : ch S j = 300 := by unfold ch; rw [if_neg (by omega)]
    refine Or.inl ⟨v, j, dg, cm', ?_, hij, hp, fun _ => hcd, fun _ => by rw [e3]; decide, fun _ => by rw [e3]; decide, fun h => absurd h (by decide)⟩
    unfold L_X12_sum_6
    rw [fine_ok, bc_eq, if_neg (by decide), here_ok H hj40, bc_eq, bd_eq, if_neg (by rw [hv_eq (show (43 : Int32) = nI 43 from by decide +kernel) (by decide), e3]; decide), here_ok H hj40, bc_eq, if_neg (by rw [hv_eq (show (45 : Int32) = nI 45 from by decide +kernel) (by decide), e3]; decide)]
    rfl
  | succ m ihm =>
    intro j v dg cm' fu hj hfu hij hp hcd h47
    obtain ⟨fu, rfl⟩ : ∃ n', fu = n' + 1 := ⟨fu - 1, by omega⟩
    obtain ⟨pe, O', cs, V, h1, h2, h3, h4, h5, h6, h7⟩ := id hp
    have hj40 := (cl_le h1).2
    have step : ∀ s, (s = 43 ∨ s = 45) → ch S j = s → (∃ v2 j2 dg2 cm2, E_X12_held n 2 (nI d) (RW w (j + 1) (-1)) = some (v2, RW w j2 (-1)) ∧ j < j2 ∧ j < 40 ∧ pox S (fAsk w) 2 d W O cm j2 (bindS s v v2) dg2 cm2 ∧ cm2 d = cm d ∧ (ch S j2 ≠ 42 ∧ ch S j2 ≠ 47)) ∨ (∃ v2 j2 q, E_X12_held n 2 (nI d) (RW w (j + 1) (-1)) = some (v2, RW w j2 (nI q)) ∧ j < 40 ∧ flS S q) := by
      intro s hs hc
      have hss : str s = 2 ∧ okOp s := by rcases hs with h | h <;> subst h <;> exact ⟨rfl, by unfold okOp; omega⟩
      obtain ⟨hj', -⟩ := ch_at hc (by omega)
      have hcl := cl_step h1 hc (by omega) (acc_op (by omega))
      rw [hss.1, flush_app hW pe O' h2] at hcl
      rcases ih 2 d (j + 1) 0 cm' (s :: W) (O' ++ pe.map ng) (by decide) hd (by omega) hcl (fun _ => topLt_c (by rw [hss.1]; decide)) (fun h => absurd h (by decide)) with ⟨v2, j2, dg2, cm2, g1, g2, g3, g4, g5, -⟩ | ⟨v2, j2, q, g1, g2⟩
      · exact Or.inl ⟨v2, j2, dg2, cm2, g1, by omega, hj', pox_bin hss.2 (by omega) (by decide) h3 h4 h5 h6 g3, (g4 (by decide)).trans hcd, g5 (by decide)⟩
      · exact Or.inr ⟨v2, j2, q, g1, hj', g2⟩
    have bad : ∀ (x : Int32) j2 q fu', 0 < fu' → flS S q → PF S (fAsk w) w 1 d i W O cm (L_X12_sum_6 (E_X12_held n) (nI d) J_X12_sum_x82_4 fu' x (RW w j2 (nI q))) := by
      intro x j2 q fu' hf hq
      obtain ⟨fu', rfl⟩ : ∃ n', fu' = n' + 1 := ⟨fu' - 1, by omega⟩
      refine Or.inr ⟨x, j2, q, ?_, hq⟩
      unfold L_X12_sum_6
      rw [fine_no (fl_100 hq), bc_eq, if_pos rfl]
      rfl
    unfold L_X12_sum_6
    rw [fine_ok, bc_eq, if_neg (by decide), here_ok H hj40, bc_eq, bd_eq]
    by_cases c1 : ch S j = 43
    · rw [if_pos ((hv_eq (by decide +kernel) (by decide)).mpr c1)]
      unfold J_X12_sum_j31_3
      rw [here_ok H hj40, bc_eq, bd_eq, if_pos ((hv_eq (by decide +kernel) (by decide)).mpr c1)]
      unfold J_X12_sum_j45_2
      rw [RW_11, nI_1, RW_set11, bd_eq]
      rcases step 43 (Or.inl rfl) c1 with ⟨v2, j2, dg2, cm2, g1, g2, g3, g4, g5, g6⟩ | ⟨v2, j2, q, g1, g2, g3⟩
      · rw [g1, bc_eq, bd_eq, if_neg (by decide)]
        exact ihm j2 _ dg2 cm2 fu (by omega) (by omega) (by omega) g4 g5 g6
      · rw [g1, bc_eq, bd_eq, if_neg (by decide)]
        exact bad _ j2 q fu (by omega) g3
    · rw [if_neg (fun z => c1 ((hv_eq (by decide +kernel) (by decide)).mp z)), here_ok H hj40, bc_eq]
      by_cases c2 : ch S j = 45
      · rw [if_pos ((hv_eq (by decide +kernel) (by decide)).mpr c2)]
        unfold J_X12_sum_j31_3
        rw [here_ok H hj40, bc_eq, bd_eq, if_neg (fun z => c1 ((hv_eq (by decide +kernel) (by decide)).mp z))]
        unfold J_X12_sum_j45_2
        rw [RW_11, nI_1, RW_set11, bd_eq]
        rcases step 45 (Or.inr rfl) c2 with ⟨v2, j2, dg2, cm2, g1, g2, g3, g4, g5, g6⟩ | ⟨v2, j2, q, g1, g2, g3⟩
        · rw [g1, bc_eq, bd_eq, if_pos rfl]
          exact ihm j2 _ dg2 cm2 fu (by omega) (by omega) (by omega) g4 g5 g6
        · rw [g1, bc_eq, bd_eq, if_pos rfl]
          exact bad _ j2 q fu (by omega) g3
      · rw [if_neg (fun z => c2 ((hv_eq (by decide +kernel) (by decide)).mp z))]
        exact Or.inl ⟨v, j, dg, cm', rfl, hij, hp, fun _ => hcd, fun _ => h47, fun _ => ⟨c1, c2⟩, fun h => absurd h (by decide)⟩
theorem no_acc (H : rdH w S) {j dg d : Nat} {cm : Nat → Bool} {W : List Nat} {O : List Int32} (h41 : ch S j = 41 → d = 0) (hdg : 48 ≤ ch S j → ch S j ≤ 57 → dg = 0 ∨ dg = 3) (h1 : ch S j ≠ 42 ∧ ch S j ≠ 47) (h2 : ch S j ≠ 43 ∧ ch S j ≠ 45) (h3 : (ch S j = 60 ∨ ch S j = 61 ∨ ch S j = 62) → cm d = true) : ∀ x, ch S j = x → x ≠ 300 → acc (false, dg, d, cm, W, O) x = none := by
  intro x hx h300
  subst hx
  rcases ch_256 (i := j) H with h | ⟨h256, -⟩
  · exact absurd h h300
  by_cases hd : 48 ≤ ch S j ∧ ch S j ≤ 57
  · exact acc_dig3 hd (hdg hd.1 hd.2)
  · have key : ∀ x, x < 256 → (str x ≤ 1 ∨ x = 42 ∨ x = 47 ∨ x = 43 ∨ x = 45) ∧ (str x ≠ 1 ∨ x = 60 ∨ x = 61 ∨ x = 62) := by decide +kernel
    obtain ⟨k1, k2⟩ := key _ h256
    exact acc_end hd h41 (by omega) (fun z => h3 (by omega))
theorem E_thing (n : Nat) (p1 : Int32) (w : Wd) : E_X12_held (n + 1) 3 p1 w = B_X12_thing (E_X12_held n) p1 w := rfl
theorem E_product (n : Nat) (p1 : Int32) (w : Wd) : E_X12_held (n + 1) 2 p1 w = B_X12_product (E_X12_held n) p1 w := rfl
theorem E_sum (n : Nat) (p1 : Int32) (w : Wd) : E_X12_held (n + 1) 1 p1 w = B_X12_sum (E_X12_held n) p1 w := rfl
theorem E_held (n : Nat) (p1 : Int32) (w : Wd) : E_X12_held (n + 1) 0 p1 w = B_X12_held (E_X12_held n) p1 w := rfl
theorem parse_thing (H : rdH w S) {n : Nat} (ih : IHn S w n) {d i dg : Nat} {cm : Nat → Bool} {W : List Nat} {O : List Int32} (hd : d ≤ 4) (hn : (40 - i) + 3 * (4 - d) ≤ n) (hcl : cl S i = some (true, dg, d, cm, W, O)) : PF S (fAsk w) w 3 d i W O cm (E_X12_held (n + 1) 3 (nI d) (RW w i (-1))) := by
  have hi := (cl_le hcl).2
  rw [E_thing]
  unfold B_X12_thing
  rw [passes_ok H hi (show (45 : Int32) = nI 45 from by decide +kernel) (by decide)]
  by_cases c45 : ch S i = 45
  · rw [if_pos c45, bc_eq, if_neg (by decide)]
    obtain ⟨hi', -⟩ := ch_at c45 (by decide)
    rcases ih 3 d (i + 1) 0 cm (256 :: W) O (by decide) hd (by omega) (cl_step hcl c45 (by decide) acc_neg) (fun h => absurd h (by decide)) (fun h => absurd h (by decide)) with ⟨v2, j2, dg2, cm2, g1, g2, ⟨p2, O2, c2, V2, q1, q2, q3, q4, q5, q6, q7⟩, g4, -⟩ | ⟨v2, j2, q, g1, g2⟩
    · rw [g1, bc_eq]
      refine Or.inl ⟨-v2, j2, dg2, cm2, rfl, by omega, ⟨p2 ++ [256], O2, c2 ++ [-(nI 256)], fun f => -(V2 f), by rw [q1]; simp, ?_, ?_, blk_neg q4, by rw [q5], q6, q7⟩, fun _ => g4 (by decide), fun h => absurd h (by decide), fun h => absurd h (by decide), fun h => absurd h (by decide)⟩
      · intro a ha
        rcases List.mem_append.mp ha with ha | ha
        · exact q2 a ha
        · rw [List.mem_singleton.mp ha]
          decide
      · rw [List.map_append, ← List.append_assoc, q3, List.append_assoc]
        rfl
    · rw [g1, bc_eq]
      exact Or.inr ⟨_, j2, q, rfl, g2⟩
  · rw [if_neg c45, bc_eq, if_pos rfl, fine_ok, bc_eq, if_neg (by decide), here_ok H hi, bc_eq, bd_eq]
    have plain : (ch S i = 40 → d = 4) → PF S (fAsk w) w 3 d i W O cm (J_X12_thing_j67_1 (hv (ch S i)) (RW w i (-1))) := by
      intro h40
      unfold J_X12_thing_j67_1
      rw [in_dig H, bc_eq]
      by_cases cd : 48 ≤ ch S i ∧ ch S i ≤ 57
      · rw [if_pos cd, if_neg (by decide)]
        obtain ⟨v', j', c', e1, e2, e3, e4, e5⟩ := number_ok H hcl cd
        rw [e1, bc_eq]
        exact Or.inl ⟨nI v', j', c', cm, rfl, e3, ⟨[], _, [nI v'], fun _ => nI v', e4, (by intro a ha; cases ha), by simp, blk_num e2, rfl, fun _ _ => rfl, fun a b => Or.inr (e5 a b)⟩, fun _ => rfl, fun h => absurd h (by decide), fun h => absurd h (by decide), fun h => absurd h (by decide)⟩
      · rw [if_neg cd, if_pos rfl]
        have bad : lof (ch S i) = 7 → PF S (fAsk w) w 3 d i W O cm (bv (D_X12_fault ((RW w i (-1)).1 119 11) (RW w i (-1))) fun w16 => some (0, w16)) := by
          intro hl
          rw [RW_11, fault_ok, bv_eq]
          exact Or.inr ⟨0, i, i, rfl, fl_at hcl (fun x hx h3 => by subst hx; exact acc_bad hl cd c45 (fun z => by have := h40 z; omega)) (Or.inl rfl)⟩
        rcases ch_256 (i := i) H with h | ⟨h, hi40, hsi⟩
        · rw [letter_no h, bc_eq, if_pos rfl]
          exact bad (by rw [h]; rfl)
        · rw [letter_ok h, bc_eq]
          by_cases hl : lof (ch S i) = 7
          · rw [if_pos hl, if_pos rfl]
            exact bad hl
          · have hl7 : lof (ch S i) < 7 := by
              have key : ∀ x, lof x ≤ 7 := by
                intro x
                unfold lof
                repeat (split <;> try omega)
              have := key (ch S i)
              omega
            have c40 : ch S i ≠ 40 := fun z => hl (by rw [z]; rfl)
            rw [if_neg hl, if_neg (nI_nm (by omega)), bd_eq, RW_11, nI_1, RW_set11, RW_f (by decide) (by decide)]
            have fin : ∀ x : Int32, x = fAsk w (lof (ch S i)) → PF S (fAsk w) w 3 d i W O cm (some (x, RW w (i + 1) (-1))) := by
              intro x hx
              refine Or.inl ⟨x, i + 1, 0, cm, rfl, by omega, ⟨[], O ++ [ng (ch S i)], [-(nI (ltr (lof (ch S i))))], fun f => f (lof (ch S i)), cl_step hcl rfl (by omega) (acc_th hl7 cd c45 c40), (by intro a ha; cases ha), ?_, blk_th hl7, hx, fun _ _ => rfl, fun _ _ => Or.inl rfl⟩, fun _ => rfl, fun h => absurd h (by decide), fun h => absurd h (by decide), fun h => absurd h (by decide)⟩
              rw [ltr_lof _ h hl7]
              simp [ng]
            by_cases ha : w.1 119 17 = 0
            · rw [if_pos ha]
              exact fin _ (by unfold fAsk; rw [if_pos ha])
            · rw [if_neg ha, letter_ok h, bc_eq, if_neg hl, if_pos (ib_nI hl7 (by omega)), nI_clamp (by omega), RW_r (by decide)]
              exact fin _ (by unfold fAsk; rw [if_neg ha, Nat.min_eq_left (by omega)])
    by_cases c40 : ch S i = 40
    · rw [if_pos ((hv_eq (by decide +kernel) (by decide)).mpr c40)]
      by_cases hd4 : d < 4
      · rw [if_neg (by rw [show (4 : Int32) = nI 4 from by decide +kernel]; exact nI_ge hd4 (by decide)), bd_eq, RW_11, nI_1, nI_1, RW_set11]
        obtain ⟨hi', -⟩ := ch_at c40 (by decide)
        rcases ih 0 (d + 1) (i + 1) 0 (setB cm (d + 1) false) (40 :: W) O (by decide) (by omega) (by omega) (cl_step hcl c40 (by decide) (acc_open hd4)) (fun _ => topLt_c (by decide)) (fun _ => by unfold setB; rw [if_pos rfl]) with ⟨v2, j2, dg2, cm2, g1, g2, ⟨p2, O2, c2, V2, q1, q2, q3, q4, q5, q6, q7⟩, -, g5, g6, g7⟩ | ⟨v2, j2, q, g1, g2⟩
        · rw [g1, bc_eq]
          have hj2 := (cl_le q1).2
          have hcm : ∀ k, k ≤ d → cm2 k = cm k := by
            intro k hk
            rw [q6 k (by omega)]
            unfold setB
            rw [if_neg (by omega)]
          unfold D_X12_need
          rw [passes_ok H hj2 (show (41 : Int32) = nI 41 from by decide +kernel) (by decide)]
          by_cases c41 : ch S j2 = 41
          · rw [if_pos c41, bc_eq, if_neg (by decide), bv_eq]
            have hcl2 := cl_step q1 c41 (by decide) (acc_close (by omega))
            rw [flush_app (topLt_c (by decide)) p2 O2 q2] at hcl2
            refine Or.inl ⟨v2, j2 + 1, 0, cm2, rfl, by omega, ⟨[], O2 ++ p2.map ng, c2, V2, hcl2, (by intro a ha; cases ha), by simp [q3], q4, q5, fun k hk => hcm k (by omega), fun _ _ => Or.inl rfl⟩, fun _ => hcm d (Nat.le_refl _), fun h => absurd h (by decide), fun h => absurd h (by decide), fun h => absurd h (by decide)⟩
          · rw [if_neg c41, bc_eq, if_pos rfl, RW_11, fault_ok, bv_eq, bv_eq]
            refine Or.inr ⟨v2, j2, j2, rfl, fl_at q1 (no_acc H (fun z => absurd z c41) q7 (g5 (by decide)) (g6 (by decide)) (g7 rfl)) (Or.inr (by simp))⟩
        · rw [g1, bc_eq]
          unfold D_X12_need
          rw [passes_no (fl_100 g2), bc_eq, if_pos rfl, fault_no (fl_100 g2), bv_eq, bv_eq]
          exact Or.inr ⟨v2, j2, q, rfl, g2⟩
      · rw [if_pos (by rw [show (4 : Int32) = nI 4 from by decide +kernel]; exact nI_le (by omega) (by omega))]
        exact plain (fun _ => by omega)
    · rw [if_neg (fun z => c40 ((hv_eq (by decide +kernel) (by decide)).mp z))]
      exact plain (fun z => absurd z c40)
theorem parse_product (H : rdH w S) {n : Nat} (ih : IHn S w n) {d i dg : Nat} {cm : Nat → Bool} {W : List Nat} {O : List Int32} (hd : d ≤ 4) (hn : (40 - i) + 3 * (4 - d) + 1 ≤ n) (hcl : cl S i = some (true, dg, d, cm, W, O)) (hW : topLt W 3) : PF S (fAsk w) w 2 d i W O cm (E_X12_held (n + 1) 2 (nI d) (RW w i (-1))) := by
  rw [E_product]
  unfold B_X12_product
  show PF S (fAsk w) w 2 d i W O cm (bc (E_X12_held n 3 (nI d) (RW w i (-1))) _)
  rcases ih 3 d i dg cm W O (by decide) hd (by omega) hcl (fun h => absurd h (by decide)) (fun h => absurd h (by decide)) with ⟨v2, j2, dg2, cm2, g1, g2, g3, g4, -⟩ | ⟨v2, j2, q, g1, g2⟩
  · rw [g1, bc_eq]
    obtain ⟨p2, O2, c2, V2, q1, q2, q3⟩ := g3
    exact loop_p H ih hd hn hW 40 j2 v2 dg2 cm2 FU (by omega) (by unfold FU; omega) g2 ⟨p2, O2, c2, V2, q1, fun a ha => by have := q2 a ha; omega, q3⟩ (g4 (by decide))
  · rw [g1, bc_eq]
    refine Or.inr ⟨v2, j2, q, ?_, g2⟩
    rw [show FU = 999999 + 1 from rfl]
    unfold L_X12_product_6
    rw [fine_no (fl_100 g2), bc_eq, if_pos rfl]
    rfl
theorem parse_sum (H : rdH w S) {n : Nat} (ih : IHn S w n) {d i dg : Nat} {cm : Nat → Bool} {W : List Nat} {O : List Int32} (hd : d ≤ 4) (hn : (40 - i) + 3 * (4 - d) + 2 ≤ n) (hcl : cl S i = some (true, dg, d, cm, W, O)) (hW : topLt W 2) : PF S (fAsk w) w 1 d i W O cm (E_X12_held (n + 1) 1 (nI d) (RW w i (-1))) := by
  rw [E_sum]
  unfold B_X12_sum
  show PF S (fAsk w) w 1 d i W O cm (bc (E_X12_held n 2 (nI d) (RW w i (-1))) _)
  rcases ih 2 d i dg cm W O (by decide) hd (by omega) hcl (fun _ => topLt_m hW (by decide)) (fun h => absurd h (by decide)) with ⟨v2, j2, dg2, cm2, g1, g2, g3, g4, g5, -⟩ | ⟨v2, j2, q, g1, g2⟩
  · rw [g1, bc_eq]
    obtain ⟨p2, O2, c2, V2, q1, q2, q3⟩ := g3
    exact loop_s H ih hd hn hW 40 j2 v2 dg2 cm2 FU (by omega) (by unfold FU; omega) g2 ⟨p2, O2, c2, V2, q1, fun a ha => by have := q2 a ha; omega, q3⟩ (g4 (by decide)) (g5 (by decide))
  · rw [g1, bc_eq]
    refine Or.inr ⟨v2, j2, q, ?_, g2⟩
    rw [show FU = 999999 + 1 from rfl]
    unfold L_X12_sum_6
    rw [fine_no (fl_100 g2), bc_eq, if_pos rfl]
    rfl
theorem parse_held (H : rdH w S) {n : Nat} (ih : IHn S w n) {d i dg : Nat} {cm : Nat → Bool} {W : List Nat} {O : List Int32} (hd : d ≤ 4) (hn : (40 - i) + 3 * (4 - d) + 3 ≤ n) (hcl : cl S i = some (true, dg, d, cm, W, O)) (hW : topLt W 1) (hcm : cm d = false) : PF S (fAsk w) w 0 d i W O cm (E_X12_held (n + 1) 0 (nI d) (RW w i (-1))) := by
  rw [E_held]
  unfold B_X12_held
  show PF S (fAsk w) w 0 d i W O cm (bc (E_X12_held n 1 (nI d) (RW w i (-1))) _)
  rcases ih 1 d i dg cm W O (by decide) hd (by omega) hcl (fun _ => topLt_m hW (by decide)) (fun h => absurd h (by decide)) with ⟨v, j, dg1, cm1, g1, g2, g3, g4, g5, g6, -⟩ | ⟨v2, j2, q, g1, g2⟩
  · rw [g1, bc_eq]
    obtain ⟨pe, O', cs, V, h1, h2, h3, h4, h5, h6, h7⟩ := id g3
    have hj40 := (cl_le h1).2
    have hc1 : cm1 d = false := (g4 (by decide)).trans hcm
    have step : ∀ s, (s = 60 ∨ s = 61 ∨ s = 62) → ch S j = s → (∃ v2 j2 dg2 cm2, E_X12_held n 1 (nI d) (RW w (j + 1) (-1)) = some (v2, RW w j2 (-1)) ∧ i < j2 ∧ pox S (fAsk w) 1 d W O cm j2 (bindS s v v2) dg2 cm2 ∧ cm2 d = true ∧ (ch S j2 ≠ 42 ∧ ch S j2 ≠ 47) ∧ (ch S j2 ≠ 43 ∧ ch S j2 ≠ 45)) ∨ (∃ v2 j2 q, E_X12_held n 1 (nI d) (RW w (j + 1) (-1)) = some (v2, RW w j2 (nI q)) ∧ flS S q) := by
      intro s hs hc
      have hss : str s = 1 ∧ okOp s := by rcases hs with h | h | h <;> subst h <;> exact ⟨rfl, by unfold okOp; omega⟩
      obtain ⟨hj', -⟩ := ch_at hc (by omega)
      have hcl2 := cl_step h1 hc (by omega) (acc_cmp hs hc1)
      rw [flush_app hW pe O' (fun a ha => by have := h2 a ha; omega)] at hcl2
      rcases ih 1 d (j + 1) 0 (setB cm1 d true) (s :: W) (O' ++ pe.map ng) (by decide) hd (by omega) hcl2 (fun _ => topLt_c (by rw [hss.1]; decide)) (fun h => absurd h (by decide)) with ⟨v2, j2, dg2, cm2, e1, e2, e3, e4, e5, e6, -⟩ | ⟨v2, j2, q, e1, e2⟩
      · refine Or.inl ⟨v2, j2, dg2, cm2, e1, by omega, pox_bin hss.2 (by omega) (by decide) h3 h4 h5 (fun k hk => ?_) e3, ?_, e5 (by decide), e6 (by decide)⟩
        · unfold setB
          rw [if_neg (by omega)]
          exact h6 k hk
        · rw [e4 (by decide)]
          unfold setB
          rw [if_pos rfl]
      · exact Or.inr ⟨v2, j2, q, e1, e2⟩
    rw [passes_ok H hj40 (show (60 : Int32) = nI 60 from by decide +kernel) (by decide)]
    by_cases c60 : ch S j = 60
    · rw [if_pos c60, bc_eq, if_neg (by decide)]
      rcases step 60 (by omega) c60 with ⟨v2, j2, dg2, cm2, e1, e2, e3, e4, e5, e6⟩ | ⟨v2, j2, q, e1, e2⟩
      · rw [e1, bc_eq]
        have hb : bindS 60 v v2 = if v2 ≤ v then 0 else 1 := rfl
        rw [hb] at e3
        by_cases hz : v2 ≤ v
        · rw [if_pos hz]
          rw [if_pos hz] at e3
          exact Or.inl ⟨_, j2, dg2, cm2, rfl, e2, e3, fun h => absurd h (by decide), fun _ => e5, fun _ => e6, fun _ _ => e4⟩
        · rw [if_neg hz]
          rw [if_neg hz] at e3
          exact Or.inl ⟨_, j2, dg2, cm2, rfl, e2, e3, fun h => absurd h (by decide), fun _ => e5, fun _ => e6, fun _ _ => e4⟩
      · rw [e1, bc_eq]
        by_cases hz : v2 ≤ v
        · rw [if_pos hz]
          exact Or.inr ⟨_, j2, q, rfl, e2⟩
        · rw [if_neg hz]
          exact Or.inr ⟨_, j2, q, rfl, e2⟩
    · rw [if_neg c60, bc_eq, if_pos rfl, passes_ok H hj40 (show (62 : Int32) = nI 62 from by decide +kernel) (by decide)]
      by_cases c62 : ch S j = 62
      · rw [if_pos c62, bc_eq, if_neg (by decide)]
        rcases step 62 (by omega) c62 with ⟨v2, j2, dg2, cm2, e1, e2, e3, e4, e5, e6⟩ | ⟨v2, j2, q, e1, e2⟩
        · rw [e1, bc_eq]
          have hb : bindS 62 v v2 = if v ≤ v2 then 0 else 1 := rfl
          rw [hb] at e3
          by_cases hz : v ≤ v2
          · rw [if_pos hz]
            rw [if_pos hz] at e3
            exact Or.inl ⟨_, j2, dg2, cm2, rfl, e2, e3, fun h => absurd h (by decide), fun _ => e5, fun _ => e6, fun _ _ => e4⟩
          · rw [if_neg hz]
            rw [if_neg hz] at e3
            exact Or.inl ⟨_, j2, dg2, cm2, rfl, e2, e3, fun h => absurd h (by decide), fun _ => e5, fun _ => e6, fun _ _ => e4⟩
        · rw [e1, bc_eq]
          by_cases hz : v ≤ v2
          · rw [if_pos hz]
            exact Or.inr ⟨_, j2, q, rfl, e2⟩
          · rw [if_neg hz]
            exact Or.inr ⟨_, j2, q, rfl, e2⟩
      · rw [if_neg c62, bc_eq, if_pos rfl, passes_ok H hj40 (show (61 : Int32) = nI 61 from by decide +kernel) (by decide)]
        by_cases c61 : ch S j = 61
        · rw [if_pos c61, bc_eq, if_neg (by decide)]
          rcases step 61 (by omega) c61 with ⟨v2, j2, dg2, cm2, e1, e2, e3, e4, e5, e6⟩ | ⟨v2, j2, q, e1, e2⟩
          · rw [e1, bc_eq]
            have hb : bindS 61 v v2 = if v = v2 then 1 else 0 := rfl
            rw [hb] at e3
            by_cases hz : v = v2
            · rw [if_pos hz]
              rw [if_pos hz] at e3
              exact Or.inl ⟨_, j2, dg2, cm2, rfl, e2, e3, fun h => absurd h (by decide), fun _ => e5, fun _ => e6, fun _ _ => e4⟩
            · rw [if_neg hz]
              rw [if_neg hz] at e3
              exact Or.inl ⟨_, j2, dg2, cm2, rfl, e2, e3, fun h => absurd h (by decide), fun _ => e5, fun _ => e6, fun _ _ => e4⟩
          · rw [e1, bc_eq]
            by_cases hz : v = v2
            · rw [if_pos hz]
              exact Or.inr ⟨_, j2, q, rfl, e2⟩
            · rw [if_neg hz]
              exact Or.inr ⟨_, j2, q, rfl, e2⟩
        · rw [if_neg c61, bc_eq, if_pos rfl]
          exact Or.inl ⟨v, j, dg1, cm1, rfl, g2, ⟨pe, O', cs, V, h1, fun a ha => by have := h2 a ha; omega, h3, h4, h5, h6, h7⟩, fun h => absurd h (by decide), fun _ => g5 (by decide), fun _ => g6 (by decide), fun _ z => by omega⟩
  · rw [g1, bc_eq, passes_no (fl_100 g2), bc_eq, if_pos rfl, passes_no (fl_100 g2), bc_eq, if_pos rfl, passes_no (fl_100 g2), bc_eq, if_pos rfl]
    exact Or.inr ⟨v2, j2, q, rfl, g2⟩
theorem parse_all (H : rdH w S) : ∀ n, IHn S w n := by
  intro n
  induction n with
  | zero =>
    intro t d i dg cm W O h1 h2 h3
    omega
  | succ n ih =>
    intro t d i dg cm W O h1 h2 h3 hcl hW hcm
    rcases (by omega : t = 0 ∨ t = 1 ∨ t = 2 ∨ t = 3) with h | h | h | h <;> subst h
    · exact parse_held H ih h2 (by omega) hcl (hW (by decide)) (hcm rfl)
    · exact parse_sum H ih h2 (by omega) hcl (hW (by decide))
    · exact parse_product H ih h2 (by omega) hcl (hW (by decide))
    · exact parse_thing H ih h2 (by omega) hcl
end PA
