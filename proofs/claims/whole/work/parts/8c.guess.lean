/-! which sets of LAWS explain what was seen; guess -/
def plF (c : Nat) (P : Nat → Nat) (set : Nat) (x : Int32) : Int32 := if x < 0 ∨ nI c ≤ x then -1 else if P (P 14 * c + x.toNatClampNeg) = 0 then -1 else nI (mv1 c set (P 14) x.toNatClampNeg P).1
def exL (c : Nat) (P : Nat → Nat) (l : List (Int32 × Int32)) (set : Nat) : Bool := l.all (fun q => decide (plF c P set q.1 = q.2))
section GU
variable {w w0 u u0 : Wd} {c L : Nat} {P : Nat → Nat} {hs : List (Nat → Nat)} {tx rl : List Nat} {cd : List Int32} {kp : Nat → Option (Nat → Nat)} {cl si : List (Int32 × Int32)} {rw : List Int64}
theorem okB_set {set : Nat} (hB : okB c L (P 14) P) (hs : set < 64) : okB c set (P 14) P := ⟨hB.1, hB.2.1, hs, hB.2.2.2⟩
theorem plF_p {set p : Nat} (hp : p < c) (h6 : c ≤ 6) : plF c P set (nI p) = if P (P 14 * c + p) = 0 then -1 else nI (mv1 c set (P 14) p P).1 := by
  unfold plF
  rw [if_neg (by rintro (h | h); exact nI_pos (by omega) h; exact nI_ge hp (by omega) h), nI_clamp (by omega)]
theorem c_tryPl (m0 : isAt w 0 c P) (hp : posC w) (hB : okB c L (P 14) P) {set : Nat} (hset : set < 64) (x : Int32) : ∃ b w1, D_X11_tryMove x (nI set) w = some (b, w1) ∧ qC EC0 [] w w1 ∧ ((b = 0 ∧ plF c P set x = -1) ∨ (b = 1 ∧ w1.1 84 6 = plF c P set x ∧ plF c P set x ≠ -1)) := by
  have h6 := hB.2.1
  rcases arg_cases c (by omega) x with hx | ⟨p, hpc, rfl⟩
  · obtain ⟨w1, e1, q1⟩ := c_tryNo (L' := nI set) m0 hp hx
    exact ⟨0, w1, e1, q1, Or.inl ⟨rfl, if_pos hx⟩⟩
  · obtain ⟨t1, t2⟩ := c_tryMove m0 hp (okB_set hB hset) hpc
    by_cases h0 : P (P 14 * c + p) = 0
    · obtain ⟨w1, e1, q1⟩ := t1 h0
      exact ⟨0, w1, e1, q1, Or.inl ⟨rfl, by rw [plF_p hpc h6, if_pos h0]⟩⟩
    · obtain ⟨w1, e1, q1, -, -, -, e6, -, -⟩ := t2 h0
      have hfr : P 14 * c + p < 2 * c := by have := hB.2.2.2.1; rcases (by omega : P 14 = 0 ∨ P 14 = 1) with h | h <;> rw [h] <;> omega
      obtain ⟨j1, -, -⟩ := lapS_inv (L := set) (P := P) hB.1 h6 hB.2.2.2.1 hfr
      obtain ⟨i1, -, -, -⟩ := goS_inv (L := set) hB.1 h6 hB.2.2.2.1 50 _ (lapS c set (P 14) (P 14 * c + p) P).2 1 j1 (by omega)
      have hpl : (mv1 c set (P 14) p P).1 ≤ 100 := by
        have i1' : okPl c (mv1 c set (P 14) p P).1 := i1
        rcases i1' with h | h <;> omega
      exact ⟨1, w1, e1, q1, Or.inr ⟨rfl, by rw [e6, plF_p hpc h6, if_neg h0], by rw [plF_p hpc h6, if_neg h0]; exact nI_nm hpl⟩⟩
theorem noteC_q {o mx : Nat} {l : List (Int32 × Int32)} (m : noteC w o mx l) {w' : Wd} (h : qC EC0 [] w w') (h0 : o ∉ EC0) (h1 : o + 1 ∉ EC0) (h2 : o + 2 ∉ EC0) : noteC w' o mx l := noteC_same m h.1 h0 h1 h2
theorem c_exloop (m : CR w c L P hs tx cd kp cl si rw) (hB : okB c L (P 14) P) (hl : si.length ≤ 10) (hne : ∀ q ∈ si, q.2 ≠ -1) {set : Nat} (hset : set < 64) : ∀ (n i fu : Nat) (w' : Wd), n + i = si.length → n < fu → qC EC0 [] w w' → ∃ w1, L_X11_explains_2 (nI set) J_X11_explains_x51_1 J_X11_explains_x59_2 fu (nI i) w' = some (if exL c P (si.drop i) set = true then 1 else 0, w1) ∧ qC EC0 [] w w1 := by
  intro n
  induction n with
  | zero =>
    intro i fu w' hi hf h
    obtain ⟨fu, rfl⟩ : ∃ n', fu = n' + 1 := ⟨fu - 1, by omega⟩
    have hn := noteC_q m.2.2.2.2.2.2.2.2.1 h (by decide) (by decide) (by decide)
    refine ⟨w', ?_, h⟩
    unfold L_X11_explains_2
    rw [hn.2.1, if_pos (nI_le (by omega) (by omega)), List.drop_of_length_le (by omega)]
    rfl
  | succ n ih =>
    intro i fu w' hi hf h
    obtain ⟨fu, rfl⟩ : ∃ n', fu = n' + 1 := ⟨fu - 1, by omega⟩
    have hn := noteC_q m.2.2.2.2.2.2.2.2.1 h (by decide) (by decide) (by decide)
    have hx : si[i]? = some si[i] := List.getElem?_eq_getElem (by omega)
    have hne' := hne _ (List.mem_of_getElem? hx)
    obtain ⟨q1, q2⟩ := hn.2.2 i si[i].1 si[i].2 hx
    obtain ⟨b, w1, e1, p1, hb⟩ := c_tryPl (qC_now0 m.1 h) (h.2 m.2.2.1) hB hset si[i].1
    have hd : si.drop i = si[i] :: si.drop (i + 1) := List.drop_eq_getElem_cons (by omega)
    have he : exL c P (si.drop i) set = (decide (plF c P set si[i].1 = si[i].2) && exL c P (si.drop (i + 1)) set) := by
      rw [hd]
      rfl
    have f117 : w1.1 117 i = si[i].2 := by rw [p1.1.1 117 (by decide)]; exact q2
    unfold L_X11_explains_2
    rw [hn.2.1, if_neg (nI_ge (by omega) (by omega)), if_pos (ib_nI (by omega) (by decide)), nI_clamp (by omega), q1, e1, bc_eq, he]
    rcases hb with ⟨hb, hp⟩ | ⟨hb, hp, -⟩
    · rw [hb, if_pos rfl]
      have : ¬ plF c P set si[i].1 = si[i].2 := fun z => hne' (z.symm.trans hp)
      refine ⟨w1, ?_, qC_tr h p1⟩
      simp only [this, decide_false, Bool.false_and]
      rfl
    · rw [hb, if_neg (by decide), if_pos (ib_nI (by omega) (by decide)), hp, f117]
      by_cases hq : plF c P set si[i].1 = si[i].2
      · rw [if_pos hq, bd_eq, nI_1]
        obtain ⟨w2, e2, p2⟩ := ih (i + 1) fu w1 (by omega) (by omega) (qC_tr h p1)
        refine ⟨w2, ?_, p2⟩
        rw [e2]
        simp only [hq, decide_true, Bool.true_and]
      · rw [if_neg hq]
        refine ⟨w1, ?_, qC_tr h p1⟩
        simp only [hq, decide_false, Bool.false_and]
        rfl
theorem c_slloop {k : Int64 → Wd → Option (Int64 × Wd)} (m : CR w c L P hs tx cd kp cl si rw) (hB : okB c L (P 14) P) (hl : si.length ≤ 10) (hne : ∀ q ∈ si, q.2 ≠ -1) : ∀ (n i fu : Nat) (w' : Wd), n + i = 64 → n < fu → qC EC0 [] w w' → ∃ w1, L_X11_setsLeft_4 k fu (lN (mk (exL c P si) i)) (nI i) w' = k (lN (mk (exL c P si) 64)) w1 ∧ qC EC0 [] w w1 := by
  intro n
  induction n with
  | zero =>
    intro i fu w' hi hf h
    obtain ⟨fu, rfl⟩ : ∃ n', fu = n' + 1 := ⟨fu - 1, by omega⟩
    refine ⟨w', ?_, h⟩
    unfold L_X11_setsLeft_4
    rw [show (64 : Int32) = nI 64 from by decide +kernel, if_pos (nI_le (by omega) (by omega)), show i = 64 by omega]
  | succ n ih =>
    intro i fu w' hi hf h
    obtain ⟨fu, rfl⟩ : ∃ n', fu = n' + 1 := ⟨fu - 1, by omega⟩
    obtain ⟨w1, e1, p1⟩ := c_exloop m hB hl hne (set := i) (by omega) si.length 0 FU w' (by omega) (by unfold FU; omega) h
    rw [nI_0, List.drop_zero] at e1
    obtain ⟨w2, e2, p2⟩ := ih (i + 1) fu w1 (by omega) (by omega) p1
    refine ⟨w2, ?_, p2⟩
    have e : mk (exL c P si) (i + 1) = mk (exL c P si) i ||| (if exL c P si i = true then 2 ^ i else 0) := rfl
    unfold L_X11_setsLeft_4 D_X11_explains
    rw [show (64 : Int32) = nI 64 from by decide +kernel, if_neg (nI_ge (by omega) (by omega)), e1, bc_eq, bd_eq]
    by_cases hs : exL c P si i = true
    · rw [if_pos hs] at e
      rw [if_pos hs, if_neg (by decide), shl64 i (by omega), lN_or, bd_eq]
      unfold J_X11_setsLeft_j24_1
      rw [bd_eq, nI_1, ← e]
      exact e2
    · rw [if_neg hs, Nat.or_zero] at e
      rw [if_neg hs, if_pos rfl]
      unfold J_X11_setsLeft_j24_1
      rw [bd_eq, nI_1, ← e]
      exact e2
theorem c_setsLeft (m : CR w c L P hs tx cd kp cl si rw) (hB : okB c L (P 14) P) (hl : si.length ≤ 10) (hne : ∀ q ∈ si, q.2 ≠ -1) : ∃ w1, D_X11_setsLeft w = some (lN (mk (exL c P si) 64), w1) ∧ qC EC0 [] w w1 := by
  obtain ⟨w1, e1, p1⟩ := c_slloop (k := J_X11_setsLeft_x30_2) m hB hl hne 64 0 FU w rfl (by unfold FU; omega) (qC_rf w)
  rw [nI_0, show lN (mk (exL c P si) 0) = 0 from rfl] at e1
  exact ⟨w1, e1, p1⟩
/-- where the last SEED falls by other LAWS, of the reference -/
theorem m_falls (n : MR u0 c L P hs tx rl kp cl si rw) (hB : okB c L (P 14) P) (h : qM FM0 [] u0 u) {set : Nat} (hset : set < 64) (x : Int32) : ∃ u1, D_X12_fallsBy (nI set) x u = some (plF c P set x, u1) ∧ sameR [129] [19, 20, 21] [] [] u u1 ∧ qM FM0 [] u0 u1 := by
  have h6 := hB.2.1
  have f1 : u.1 119 1 = nI c := (h.1.2.1 1 (by decide)).trans n.1
  have f2 : u.1 119 2 = nI L := (h.1.2.1 2 (by decide)).trans n.2.1
  have i0 := qM_now0 n.2.2.1 h
  rcases arg_cases c (by omega) x with hx | ⟨p, hp, rfl⟩
  · refine ⟨u, ?_, sameR_rf u, h⟩
    unfold D_X12_fallsBy plF
    rw [d_refuses_no f1 hB.1 h6 hx, bc_eq, if_neg (by decide), if_pos hx]
  · have hr := d_refuses ln_120 i0.1 f1 hB.1 h6 hB.2.2.2.1 hB.2.2.2.2.2 hp
    rw [plF_p hp h6]
    unfold D_X12_fallsBy
    rw [hr, bc_eq]
    unfold rfS
    by_cases h0 : P (P 14 * c + p) = 0
    · rw [if_pos h0, if_neg (by decide), if_pos h0]
      exact ⟨u, rfl, sameR_rf u, h⟩
    · have s1 : sameR [] [2] [] [] u (wI u 119 2 (nI set)) := sameR_f (by simp)
      obtain ⟨u1, u2, g1, g2, i2, s2, q2, -, -, e21⟩ := m_try (a := 120) (b := 129) (p := p) ln_120 (by decide) (by decide) (isM_same i0 s1 (by simp) (by decide)) (arrM_same (h.2 (arrM_of n)) s1 (by simp)) (by rw [wI_at_ne (by decide)]; exact f1) wI_at (okB_set hB hset) hp
      have s3 : sameR [129] [19, 20, 21] [] [] u (wI u2 119 2 (nI L)) := by
        refine ⟨fun a ha h9 => ?_, fun k hk => ?_, fun a ha => ?_, fun k hk => ?_⟩
        · rw [wI_r h9, s2.1 a ha h9, wI_r h9]
        · by_cases e : k = 2
          · subst e
            rw [wI_at, f2]
          · rw [wI_at_ne e, s2.2.1 k hk, wI_at_ne e]
        · exact s2.2.2.1 a ha
        · exact s2.2.2.2 k hk
      rw [if_neg h0, if_pos (by decide), bd_eq, bd_eq, g1, bv_eq, g2, bv_eq, f2, bd_eq, wI_at_ne (by decide), e21, if_neg h0]
      refine ⟨_, rfl, s3, qM_tr h (qM_sub (qM_at (r := 129) s3 (by decide) (by decide) (by decide) ⟨_, isM_same (E := []) (F := [2]) (T := []) (Z := []) i2 (sameR_f (by simp)) (by simp) (by decide)⟩) (by decide) (by simp))⟩
theorem bool0 : vp_nar .boolean 0 = 0 := by decide
theorem m_laloop {k : Wd → Option (Int32 × Wd)} {x7 : Int32} (n0 : MR u0 c L P hs tx rl kp cl si rw) (hB : okB c L (P 14) P) (hl : si.length ≤ 10) {set : Nat} (hset : set < 64) : ∀ (n i fu : Nat) (u : Wd), n + i = si.length → n < fu → qM FM0 [] u0 u → u.1 156 set = (if exL c P (si.take i) set = true then 1 else 0) → ∃ u1, L_X12_layLaws_19 x7 (nI set) k fu (nI i) u = k u1 ∧ qM FM0 [] u0 u1 ∧ u1.1 156 set = (if exL c P si set = true then 1 else 0) ∧ ∀ j, j ≠ set → u1.1 156 j = u.1 156 j := by
  intro n
  induction n with
  | zero =>
    intro i fu u hi hf h hr
    obtain ⟨fu, rfl⟩ : ∃ n', fu = n' + 1 := ⟨fu - 1, by omega⟩
    refine ⟨u, ?_, h, ?_, fun _ _ => rfl⟩
    · unfold L_X12_layLaws_19
      rw [h.1.2.1 46 (by decide), n0.2.2.2.2.2.2.2.2.1.1, if_pos (nI_le (by omega) (by omega))]
    · rw [hr, List.take_of_length_le (by omega)]
  | succ n ih =>
    intro i fu u hi hf h hr
    obtain ⟨fu, rfl⟩ : ∃ n', fu = n' + 1 := ⟨fu - 1, by omega⟩
    have hx : si[i]? = some si[i] := List.getElem?_eq_getElem (by omega)
    have hn := sawM_same n0.2.2.2.2.2.2.2.2.1 h.1 (by decide) (by decide) (by decide)
    obtain ⟨q1, q2⟩ := hn.2 i si[i].1 si[i].2 hx
    have he : exL c P (si.take (i + 1)) set = (exL c P (si.take i) set && decide (plF c P set si[i].1 = si[i].2)) := by
      unfold exL
      rw [List.take_add_one, hx, List.all_append]
      simp
    -- isLaw is laid and the loop goes on
    have go : ∀ (v : Wd) (b : Int32), qM FM0 [] u0 v → (∀ j, j ≠ set → v.1 156 j = u.1 156 j) → b = (if exL c P (si.take (i + 1)) set = true then 1 else 0) → vp_nar .boolean b = b → ∃ u1, J_X12_layLaws_j66_2 (L_X12_layLaws_19 x7 (nI set) k fu) (nI set) (nI i) b v = k u1 ∧ qM FM0 [] u0 u1 ∧ u1.1 156 set = (if exL c P si set = true then 1 else 0) ∧ ∀ j, j ≠ set → u1.1 156 j = u.1 156 j := by
      intro v b hv hj hb hnb
      have qv : qM FM0 [] v (wI v 156 set b) := qM_any (E := [156]) (F := FM0) (T := []) (Z := []) (sameR_r (by simp) (by decide)) (by decide) (by decide) (by simp)
      obtain ⟨u1, r1, r2, r3, r4⟩ := ih (i + 1) fu (wI v 156 set b) (by omega) (by omega) (qM_tr hv qv) (by rw [wI_at, hb])
      refine ⟨u1, ?_, r2, r3, fun j hj' => ?_⟩
      · unfold J_X12_layLaws_j66_2
        rw [if_pos (ib_nI (by omega) (by decide)), hnb, bd_eq, bd_eq, nI_clamp (by omega), nI_1, r1]
      · rw [r4 j hj', wI_at_ne hj', hj j hj']
    unfold L_X12_layLaws_19
    rw [hn.1, if_neg (nI_ge (by omega) (by omega)), if_pos (ib_nI (by omega) (by decide)), nI_clamp (by omega), bd_eq, bd_eq, hr]
    unfold J_X12_layLaws_j65_1
    cases hb : exL c P (si.take i) set with
    | false =>
      rw [hb, Bool.false_and] at he
      rw [if_pos (by decide)]
      exact go u 0 h (fun _ _ => rfl) (by rw [he]; rfl) bool0
    | true =>
      rw [hb, Bool.true_and] at he
      obtain ⟨u1, e1, s1, p1⟩ := m_falls n0 hB h hset si[i].1
      have f155 : u1.1 155 i = si[i].2 := by rw [s1.1 155 (by decide) (by decide)]; exact q2
      rw [if_neg (by decide), if_pos (ib_nI (by omega) (by decide)), nI_clamp (by omega), q1, e1, bc_eq, if_pos (ib_nI (by omega) (by decide)), f155]
      have hj1 : ∀ j, j ≠ set → u1.1 156 j = u.1 156 j := fun j _ => by rw [s1.1 156 (by decide) (by decide)]
      by_cases hq : plF c P set si[i].1 = si[i].2
      · rw [if_pos hq]
        exact go u1 1 p1 hj1 (by rw [he]; simp [hq]) bool1
      · rw [if_neg hq]
        exact go u1 0 p1 hj1 (by rw [he]; simp [hq]) bool0
theorem m_lllop {k : Int32 → Wd → Option (Int32 × Wd)} (n0 : MR u0 c L P hs tx rl kp cl si rw) (hB : okB c L (P 14) P) (hl : si.length ≤ 10) : ∀ (n i fu : Nat) (u : Wd), n + i = 64 → n < fu → qM FM0 [] u0 u → (∀ j, j < i → u.1 156 j = (if exL c P si j = true then 1 else 0)) → ∃ u1, L_X12_layLaws_4 k fu (nI (cnt (exL c P si) i)) (nI i) u = k (nI (cnt (exL c P si) 64)) u1 ∧ qM FM0 [] u0 u1 ∧ ∀ j, j < 64 → u1.1 156 j = (if exL c P si j = true then 1 else 0) := by
  intro n
  induction n with
  | zero =>
    intro i fu u hi hf h hr
    obtain ⟨fu, rfl⟩ : ∃ n', fu = n' + 1 := ⟨fu - 1, by omega⟩
    refine ⟨u, ?_, h, fun j hj => hr j (by omega)⟩
    unfold L_X12_layLaws_4
    rw [show (64 : Int32) = nI 64 from by decide +kernel, if_pos (nI_le (by omega) (by omega)), show i = 64 by omega]
  | succ n ih =>
    intro i fu u hi hf h hr
    obtain ⟨fu, rfl⟩ : ∃ n', fu = n' + 1 := ⟨fu - 1, by omega⟩
    have q1 : qM FM0 [] u (wI u 156 i 1) := qM_any (E := [156]) (F := FM0) (T := []) (Z := []) (sameR_r (by simp) (by decide)) (by decide) (by decide) (by simp)
    obtain ⟨u1, r1, r2, r3, r4⟩ := m_laloop (k := J_X12_layLaws_x73_4 (L_X12_layLaws_4 k fu) (nI i) (nI (cnt (exL c P si) i))) (x7 := nI (cnt (exL c P si) i)) n0 hB hl (set := i) (by omega) si.length 0 FU (wI u 156 i 1) (by omega) (by unfold FU; omega) (qM_tr h q1) (by rw [wI_at]; rfl)
    rw [nI_0] at r1
    obtain ⟨u2, s1, s2, s3⟩ := ih (i + 1) fu u1 (by omega) (by omega) r2 (fun j hj => by
      by_cases e : j = i
      · subst e; exact r3
      · rw [r4 j e, wI_at_ne e]; exact hr j (by omega))
    refine ⟨u2, ?_, s2, s3⟩
    have e : cnt (exL c P si) (i + 1) = cnt (exL c P si) i + (if exL c P si i = true then 1 else 0) := rfl
    unfold L_X12_layLaws_4
    rw [show (64 : Int32) = nI 64 from by decide +kernel, if_neg (nI_ge (by omega) (by omega)), if_pos (ib_nI (by omega) (by decide)), bool1, bd_eq, nI_clamp (by omega), r1]
    unfold J_X12_layLaws_x73_4
    rw [if_pos (ib_nI (by omega) (by decide)), nI_clamp (by omega), r3, bd_eq]
    by_cases hs : exL c P si i = true
    · rw [if_pos hs] at e
      rw [if_pos hs, if_neg (by decide)]
      unfold J_X12_layLaws_j88_3
      rw [bd_eq, bd_eq, nI_1, nI_1, ← e]
      exact s1
    · have e : cnt (exL c P si) (i + 1) = cnt (exL c P si) i := by rw [e, if_neg hs]; rfl
      rw [if_neg hs, if_pos rfl]
      unfold J_X12_layLaws_j88_3
      rw [bd_eq, bd_eq, nI_1, Int32.add_zero, ← e]
      exact s1
theorem m_layLaws (n0 : MR u0 c L P hs tx rl kp cl si rw) (hB : okB c L (P 14) P) (hl : si.length ≤ 10) : ∃ u1, D_X12_layLaws u0 = some (nI (cnt (exL c P si) 64), u1) ∧ qM FM0 [] u0 u1 ∧ ∀ j, j < 64 → u1.1 156 j = (if exL c P si j = true then 1 else 0) := by
  obtain ⟨u1, r1, r2, r3⟩ := m_lllop (k := J_X12_layLaws_x96_5) n0 hB hl 64 0 FU u0 rfl (by unfold FU; omega) (qM_rf u0) (fun j hj => absurd hj (by omega))
  rw [show cnt (exL c P si) 0 = 0 from rfl, nI_0] at r1
  exact ⟨u1, r1, r2, r3⟩
end GU
/-- the LAWS that all sets of f have -/
def cmF (f : Nat → Bool) : Nat → Nat
  | 0 => 63
  | n + 1 => if f n = true then cmF f n &&& n else cmF f n
/-- the least set -/
def lsF (f : Nat → Bool) : Nat → Int32
  | 0 => -1
  | n + 1 => if f n = true then (if lsF f n = -1 then nI n else lsF f n) else lsF f n
theorem lsF_ok {f : Nat → Bool} : ∀ n, n ≤ 64 → (cnt f n = 0 ∧ lsF f n = -1 ∧ ∀ i, i < n → f i = false) ∨ (0 < cnt f n ∧ ∃ t, t < n ∧ f t = true ∧ lsF f n = nI t ∧ ∀ i, i < t → f i = false) := by
  intro n
  induction n with
  | zero => intro _; exact Or.inl ⟨rfl, rfl, fun i hi => absurd hi (by omega)⟩
  | succ n ih =>
    intro hn
    have e1 : cnt f (n + 1) = cnt f n + (if f n = true then 1 else 0) := rfl
    have e2 : lsF f (n + 1) = if f n = true then (if lsF f n = -1 then nI n else lsF f n) else lsF f n := rfl
    by_cases hf : f n = true
    · rw [if_pos hf] at e1 e2
      refine Or.inr ⟨by omega, ?_⟩
      rcases ih (by omega) with ⟨-, h2, h3⟩ | ⟨-, t, h2, h3, h4, h5⟩
      · exact ⟨n, by omega, hf, by rw [e2, if_pos h2], h3⟩
      · exact ⟨t, by omega, h3, by rw [e2, h4, if_neg (nI_nm (by omega))], h5⟩
    · rw [if_neg hf] at e1 e2
      rcases ih (by omega) with ⟨h1, h2, h3⟩ | ⟨h1, t, h2, h3, h4, h5⟩
      · refine Or.inl ⟨by omega, by rw [e2]; exact h2, fun i hi => ?_⟩
        by_cases e : i = n
        · subst e; simpa using hf
        · exact h3 i (by omega)
      · exact Or.inr ⟨by omega, t, by omega, h3, by rw [e2]; exact h4, h5⟩
theorem mk_zero {f : Nat → Bool} {n : Nat} (h : ∀ i, i < n → f i = false) : mk f n = 0 := by
  apply Nat.eq_of_testBit_eq
  intro i
  rw [mk_bit, Nat.zero_testBit]
  by_cases hi : i < n
  · rw [h i hi, Bool.and_false]
  · simp [hi]
theorem cnt_mk {f : Nat → Bool} {n : Nat} : cnt (fun i => (mk f n).testBit i) n = cnt f n := cnt_congr n (fun i hi => by rw [mk_bit]; simp [hi])
section GL
variable {f : Nat → Bool} {w u : Wd}
theorem lgz {x : Int64} : lg_cmp x 0 = 0 ↔ x = 0 := lg_cmp_eq x 0
theorem c_guloop {k : Int32 → Wd → Option (Int32 × Wd)} : ∀ (n i fu : Nat), n + i = 64 → n < fu → L_X11_guess_26 (lN (mk f 64)) k fu (nI (cmF f i)) (nI i) w = k (nI (cmF f 64)) w := by
  intro n
  induction n with
  | zero =>
    intro i fu hi hf
    obtain ⟨fu, rfl⟩ : ∃ n', fu = n' + 1 := ⟨fu - 1, by omega⟩
    unfold L_X11_guess_26
    rw [show (64 : Int32) = nI 64 from by decide +kernel, if_pos (nI_le (by omega) (by omega)), show i = 64 by omega]
  | succ n ih =>
    intro i fu hi hf
    obtain ⟨fu, rfl⟩ : ∃ n', fu = n' + 1 := ⟨fu - 1, by omega⟩
    have ih' := ih (i + 1) fu (by omega) (by omega)
    have e : cmF f (i + 1) = if f i = true then cmF f i &&& i else cmF f i := rfl
    have hb : (mk f 64).testBit i = f i := by
      rw [mk_bit]
      simp [show i < 64 by omega]
    have h64 := bit64 (n := mk f 64) (i := i) (by omega)
    unfold L_X11_guess_26
    rw [show (64 : Int32) = nI 64 from by decide +kernel, if_neg (nI_ge (by omega) (by omega)), bd_eq]
    unfold J_X11_guess_j49_1
    cases hs : f i with
    | true =>
      rw [hs, if_pos rfl] at e
      rw [e] at ih'
      rw [if_neg (fun z => by
        have z2 := h64.mp (lgz.mp z)
        rw [hb, hs] at z2
        cases z2), bd_eq, bd_eq, nI_1, nI_and]
      exact ih'
    | false =>
      rw [hs, if_neg (by decide)] at e
      rw [e] at ih'
      rw [if_pos (lgz.mpr (h64.mpr (by rw [hb, hs]))), bd_eq, nI_1]
      exact ih'
theorem m_guloop {k : Int32 → Int32 → Wd → Option (Int32 × Wd)} {x4 : Int32} (hr : ∀ j, j < 64 → u.1 156 j = (if f j = true then 1 else 0)) : ∀ (n i fu : Nat), n + i = 64 → n < fu → L_X12_guess_18 x4 k fu (lsF f i) (nI (cmF f i)) (nI i) u = k (lsF f 64) (nI (cmF f 64)) u := by
  intro n
  induction n with
  | zero =>
    intro i fu hi hf
    obtain ⟨fu, rfl⟩ : ∃ n', fu = n' + 1 := ⟨fu - 1, by omega⟩
    unfold L_X12_guess_18
    rw [show (64 : Int32) = nI 64 from by decide +kernel, if_pos (nI_le (by omega) (by omega)), show i = 64 by omega]
  | succ n ih =>
    intro i fu hi hf
    obtain ⟨fu, rfl⟩ : ∃ n', fu = n' + 1 := ⟨fu - 1, by omega⟩
    have ih' := ih (i + 1) fu (by omega) (by omega)
    have e : cmF f (i + 1) = if f i = true then cmF f i &&& i else cmF f i := rfl
    have e2 : lsF f (i + 1) = if f i = true then (if lsF f i = -1 then nI i else lsF f i) else lsF f i := rfl
    unfold L_X12_guess_18
    rw [show (64 : Int32) = nI 64 from by decide +kernel, if_neg (nI_ge (by omega) (by omega)), if_pos (ib_nI (by omega) (by decide)), nI_clamp (by omega), hr i (by omega), bd_eq]
    cases hs : f i with
    | true =>
      rw [hs, if_pos rfl] at e e2
      rw [e, e2] at ih'
      rw [if_neg (by decide), bd_eq]
      unfold J_X12_guess_j49_1
      rw [bd_eq, bd_eq, nI_and]
      by_cases hl : lsF f i = -1
      · rw [if_pos hl] at ih' ⊢
        unfold J_X12_guess_j55_2
        rw [bd_eq, nI_1]
        exact ih'
      · rw [if_neg hl] at ih' ⊢
        unfold J_X12_guess_j55_2
        rw [bd_eq, nI_1]
        exact ih'
    | false =>
      rw [hs, if_neg (by decide)] at e e2
      rw [e, e2] at ih'
      rw [if_pos (by decide)]
      unfold J_X12_guess_j55_2
      rw [bd_eq, nI_1]
      exact ih'
end GL
theorem mk64_lt {f : Nat → Bool} : mk f 64 < 18446744073709551616 := mk_lt 64
theorem q_guess : Quest D_X11_guess D_X12_guess := by
  intro w c L P hs tx rl cd V kp cl si rw B m ok okr
  have hB := okB_of ok
  obtain ⟨hl, hne⟩ := ok.2.2.2.2.2.2.2.2.1
  obtain ⟨w1, e1, q1⟩ := c_setsLeft m hB hl hne
  obtain ⟨w2, t1, t2, t3⟩ := d_clear w1
  have q2 : qC EC1 [83] w w2 := qC_tr (qC_up q1) (qC_hi t3 (by decide) (by decide) (by decide))
  rcases lsF_ok (f := exL c P si) 64 (Nat.le_refl _) with ⟨h1, h2, h3⟩ | ⟨h1, t, ht, hft, h2, h3⟩
  · have hz : mk (exL c P si) 64 = 0 := mk_zero h3
    obtain ⟨k1, k2⟩ := CR_q m q2 t2
    refine ⟨0, [], by simp, ⟨w2, ?_, k1, k2⟩, fun u n => ?_⟩
    · unfold D_X11_guess
      rw [e1, bc_eq, t1, bv_eq, hz, if_pos (by decide +kernel)]
    · obtain ⟨n', on'⟩ := MR_7 n
      obtain ⟨u1, g1, p1, r1⟩ := m_layLaws n' hB hl
      have gl := m_guloop (x4 := nI (cnt (exL c P si) 64)) (k := J_X12_guess_x61_3 (nI (cnt (exL c P si) 64))) r1 64 0 FU rfl (by unfold FU; omega)
      rw [show lsF (exL c P si) 0 = -1 from rfl, show nI (cmF (exL c P si) 0) = 63 from by (show nI 63 = 63); decide +kernel, nI_0] at gl
      obtain ⟨k3, k4⟩ := MR_q n' (qM_tr (qM_up p1) (qM_f (k := 6) (v := 0) (by decide))) (row0M u1)
      refine ⟨_, ?_, k3, onM_tr on' k4⟩
      unfold D_X12_guess
      rw [bd_eq, g1, bc_eq, gl]
      unfold J_X12_guess_x61_3
      rw [bd_eq, h1, if_pos (by decide), nI_0]
  · have hlt := mk64_lt (f := exL c P si)
    have hbt : ∀ i, i < 64 → (mk (exL c P si) 64).testBit i = exL c P si i := fun i hi => by
      rw [mk_bit]
      simp [hi]
    have hnz : ¬ lN (mk (exL c P si) 64) = 0 := by
      rw [show (0 : Int64) = lN 0 from rfl, lN_inj hlt (by decide)]
      intro z
      have := hbt t ht
      rw [z, hft] at this
      simp at this
    have hc64 := cnt_le (f := exL c P si) 64
    obtain ⟨w3, t4, t5, t6⟩ := d_tell2 w2 (nI t).toInt64 (nI (cmF (exL c P si) 64)).toInt64
    obtain ⟨k1, k2⟩ := CR_q m (qC_tr q2 (qC_hi t6 (by decide) (by decide) (by decide))) t5
    refine ⟨nI (cnt (exL c P si) 64), [(nI t).toInt64, (nI (cmF (exL c P si) 64)).toInt64], by simp, ⟨w3, ?_, k1, k2⟩, fun u n => ?_⟩
    · have gl := c_guloop (f := exL c P si) (w := w2) (k := J_X11_guess_x55_2 (lN (mk (exL c P si) 64))) 64 0 FU rfl (by unfold FU; omega)
      rw [show nI (cmF (exL c P si) 0) = 63 from by (show nI 63 = 63); decide +kernel, nI_0] at gl
      unfold D_X11_guess
      rw [e1, bc_eq, t1, bv_eq, if_neg (fun z => hnz (lgz.mp z)), gl]
      unfold J_X11_guess_x55_2
      rw [tz_64 hlt ht (by rw [hbt t ht, hft]) (fun i hi => by rw [hbt i (by omega), h3 i hi]), bc_eq, t4, bv_eq, bitC hlt, bc_eq, cnt_mk]
    · obtain ⟨n', on'⟩ := MR_7 n
      obtain ⟨u1, g1, p1, r1⟩ := m_layLaws n' hB hl
      have gl := m_guloop (x4 := nI (cnt (exL c P si) 64)) (k := J_X12_guess_x61_3 (nI (cnt (exL c P si) 64))) r1 64 0 FU rfl (by unfold FU; omega)
      rw [show lsF (exL c P si) 0 = -1 from rfl, show nI (cmF (exL c P si) 0) = 63 from by (show nI 63 = 63); decide +kernel, nI_0, h2] at gl
      obtain ⟨u2, g2, r2, s2⟩ := d_tellM (row0M u1) (by decide) (nI t).toInt64
      obtain ⟨u3, g3, r3, s3⟩ := d_tellM r2 (by simp) (nI (cmF (exL c P si) 64)).toInt64
      obtain ⟨k3, k4⟩ := MR_q n' (qM_tr (qM_up p1) (qM_tr (qM_f (k := 6) (v := 0) (by decide)) (qM_tr (qM_tell s2) (qM_tell s3)))) r3
      refine ⟨u3, ?_, k3, onM_tr on' k4⟩
      unfold D_X12_guess
      rw [bd_eq, g1, bc_eq, gl]
      unfold J_X12_guess_x61_3
      rw [bd_eq, if_neg (nI_nle (by omega) (by omega)), g2, bv_eq, g3, bv_eq]
