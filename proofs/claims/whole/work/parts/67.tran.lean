/-! what one call leaves as it was -/
section TC
variable {E T : List Nat} {w w' : Wd}
theorem same_but {E T : List Nat} {w w' : Wd} (h : but E w w') : same E T w w' := ⟨h.1, fun _ _ => by rw [h.2], by rw [h.2]⟩
theorem same_sub {E T E' T' : List Nat} {w w' : Wd} (h : same E T w w') (h1 : ∀ a ∈ E, a ∈ E') (h2 : ∀ a ∈ T, a ∈ T') : same E' T' w w' := ⟨fun a ha => h.1 a (fun z => ha (h1 a z)), fun a ha => h.2.1 a (fun z => ha (h2 a z)), h.2.2⟩
theorem isAt_same {q c : Nat} {P : Nat → Nat} (m : isAt w q c P) (h : same E T w w') (hE : ∀ a ∈ E, a ≠ q ∧ a ≠ q + 1 ∧ a ≠ q + 2) : isAt w' q c P := by
  unfold isAt
  rw [h.1 q (fun z => (hE q z).1 rfl), h.1 (q + 1) (fun z => (hE _ z).2.1 rfl), h.1 (q + 2) (fun z => (hE _ z).2.2 rfl)]
  exact m
theorem posC_same (m : posC w) (h : same E T w w') (hE : ∀ a ∈ E, 75 ≤ a) : posC w' := by
  intro q hq
  obtain ⟨c, P, z⟩ := m q hq
  have h1 := hq.1
  have h2 := hq.2
  exact ⟨c, P, isAt_same z h (fun a ha => by have := hE a ha; omega)⟩
theorem histC_same {c : Nat} {hs : List (Nat → Nat)} (m : histC w c hs) (h : same E T w w') (hE : ∀ a ∈ E, (a < 15 ∨ 51 ≤ a) ∧ a ≠ 78) : histC w' c hs := by
  obtain ⟨nx, n1, n2, n3, n4, n5⟩ := m
  have e := h.1 78 (fun z => (hE 78 z).2 rfl)
  refine ⟨nx, n1, n2, by rw [e]; exact n3, by rw [e]; exact n4, fun i Q hi => isAt_same (n5 i Q hi) h (fun a ha => ?_)⟩
  have := (hE a ha).1
  have := Nat.mod_lt (nx + 12 - hs.length + i) (show 12 > 0 by decide)
  omega
theorem textC_same {tx : List Nat} (m : textC w tx) (h : same E T w w') (h0 : 80 ∉ E) (h1 : 81 ∉ E) : textC w' tx := by
  unfold textC at m ⊢
  rw [h.1 80 h0, h.1 81 h1]
  exact m
theorem rowC_same {rw : List Int64} (m : rowC w rw) (h : same E T w w') (h0 : 82 ∉ E) (h1 : 83 ∉ T) : rowC w' rw := by
  unfold rowC at m ⊢
  rw [h.1 82 h0, h.2.1 83 h1]
  exact m
theorem keptC_same {c : Nat} {kp : Nat → Option (Nat → Nat)} (m : keptC w c kp) (h : same E T w w') (hE : ∀ a ∈ E, (a < 9 ∨ 15 ≤ a) ∧ a ≠ 77) : keptC w' c kp := by
  intro i hi
  rw [h.1 77 (fun z => (hE 77 z).2 rfl)]
  exact ⟨(m i hi).1, fun Q hQ => isAt_same ((m i hi).2 Q hQ) h (fun a ha => by have := (hE a ha).1; omega)⟩
theorem noteC_same {o mx : Nat} {l : List (Int32 × Int32)} (m : noteC w o mx l) (h : same E T w w') (h0 : o ∉ E) (h1 : o + 1 ∉ E) (h2 : o + 2 ∉ E) : noteC w' o mx l := by
  unfold noteC at m ⊢
  rw [h.1 o h0, h.1 (o + 1) h1, h.1 (o + 2) h2]
  exact m
theorem ruleC_same {cd : List Int32} (m : ruleC w cd) (h : same E T w w') (h0 : 106 ∉ E) (h1 : 107 ∉ E) : ruleC w' cd := by
  unfold ruleC at m ⊢
  rw [h.1 106 h0, h.1 107 h1]
  exact m
theorem greedC_same (m : greedC w) (h : same E T w w') (h0 : 109 ∉ E) (h1 : 110 ∉ E) : greedC w' := by
  unfold greedC at m ⊢
  rw [h.1 109 h0, h.1 110 h1]
  exact m
theorem onC_same (h : same E T w w') (hE : ∀ a ∈ E, a < 119) (hT : ∀ a ∈ T, a = 83) : onC w w' :=
  ⟨fun a ha => h.1 a (fun z => by have := hE a z; omega), fun a ha => h.2.1 a (fun z => ha (hT a z)), h.2.2⟩
end TC
/-- of the reference: rows but E, fields but F, long rows but T, pointers but Z are as they were -/
def sameR (E F T Z : List Nat) (w w' : Wd) : Prop := (∀ a, a ∉ E → a ≠ 119 → w'.1 a = w.1 a) ∧ (∀ k, k ∉ F → w'.1 119 k = w.1 119 k) ∧ (∀ a, a ∉ T → w'.2.1 a = w.2.1 a) ∧ ∀ k, k ∉ Z → w'.2.2 k = w.2.2 k
section TM
variable {E F T Z : List Nat} {w w' : Wd}
theorem sameR_rf (w : Wd) : sameR E F T Z w w := ⟨fun _ _ _ => rfl, fun _ _ => rfl, fun _ _ => rfl, fun _ _ => rfl⟩
theorem sameR_tr {w1 w2 : Wd} (h : sameR E F T Z w w1) (h' : sameR E F T Z w1 w2) : sameR E F T Z w w2 := ⟨fun a ha h9 => (h'.1 a ha h9).trans (h.1 a ha h9), fun k hk => (h'.2.1 k hk).trans (h.2.1 k hk), fun a ha => (h'.2.2.1 a ha).trans (h.2.2.1 a ha), fun k hk => (h'.2.2.2 k hk).trans (h.2.2.2 k hk)⟩
theorem sameR_sub {E' F' T' Z' : List Nat} (h : sameR E F T Z w w') (h1 : ∀ a ∈ E, a ∈ E') (h2 : ∀ a ∈ F, a ∈ F') (h3 : ∀ a ∈ T, a ∈ T') (h4 : ∀ a ∈ Z, a ∈ Z') : sameR E' F' T' Z' w w' := ⟨fun a ha h9 => h.1 a (fun z => ha (h1 a z)) h9, fun k hk => h.2.1 k (fun z => hk (h2 k z)), fun a ha => h.2.2.1 a (fun z => ha (h3 a z)), fun k hk => h.2.2.2 k (fun z => hk (h4 k z))⟩
theorem sameR_f {k : Nat} {v : Int32} (hk : k ∈ F) : sameR E F T Z w (wI w 119 k v) := ⟨fun a _ h9 => wI_r h9, fun j hj => wI_at_ne (fun e => hj (e ▸ hk)), fun _ _ => rfl, fun _ _ => rfl⟩
theorem sameR_r {i k : Nat} {v : Int32} (hi : i ∈ E) (h9 : i ≠ 119) : sameR E F T Z w (wI w i k v) := ⟨fun a ha _ => wI_r (fun e => ha (e ▸ hi)), fun j hj => by rw [wI_r (Ne.symm h9)], fun _ _ => rfl, fun _ _ => rfl⟩
theorem sameR_z {k q : Nat} (hk : k ∈ Z) : sameR E F T Z w (wZ w k q) := ⟨fun _ _ _ => rfl, fun _ _ => rfl, fun _ _ => rfl, fun j hj => if_neg (fun (e : j = k) => hj (by rw [e]; exact hk))⟩
theorem isM_same {a : Nat} {P : Nat → Nat} (m : isM w a P) (h : sameR E F T Z w w') (h0 : a ∉ E) (h9 : a ≠ 119) : isM w' a P := by
  unfold isM at m ⊢
  rw [h.1 a h0 h9]
  exact m
theorem histM_same {hs : List (Nat → Nat)} (m : histM w hs) (h : sameR E F T Z w w') (h0 : 127 ∉ E) (h1 : 23 ∉ F) : histM w' hs := by
  unfold histM at m ⊢
  rw [h.1 127 h0 (by decide), h.2.1 23 h1]
  exact m
theorem textM_same {tx : List Nat} (m : textM w tx) (h : sameR E F T Z w w') (h0 : 121 ∉ E) (h1 : 4 ∉ F) : textM w' tx := by
  unfold textM at m ⊢
  rw [h.1 121 h0 (by decide), h.2.1 4 h1]
  exact m
theorem rowM_same {rw : List Int64} (m : rowM w rw) (h : sameR E F T Z w w') (h0 : 122 ∉ T) (h1 : 6 ∉ F) : rowM w' rw := by
  unfold rowM at m ⊢
  rw [h.2.2.1 122 h0, h.2.1 6 h1]
  exact m
theorem keptM_same {kp : Nat → Option (Nat → Nat)} (m : keptM w kp) (h : sameR E F T Z w w') (h0 : 158 ∉ E) (h1 : 159 ∉ E) (h2 : 160 ∉ E) (h3 : 51 ∉ F) : keptM w' kp := by
  unfold keptM at m ⊢
  rw [h.1 158 h0 (by decide), h.1 159 h1 (by decide), h.1 160 h2 (by decide), h.2.1 51 h3]
  exact m
theorem heardM_same {l : List (Int32 × Int32)} (m : heardM w l) (h : sameR E F T Z w w') (h0 : 152 ∉ E) (h1 : 153 ∉ E) (h3 : 43 ∉ F) : heardM w' l := by
  unfold heardM at m ⊢
  rw [h.1 152 h0 (by decide), h.1 153 h1 (by decide), h.2.1 43 h3]
  exact m
theorem sawM_same {l : List (Int32 × Int32)} (m : sawM w l) (h : sameR E F T Z w w') (h0 : 154 ∉ E) (h1 : 155 ∉ E) (h3 : 46 ∉ F) : sawM w' l := by
  unfold sawM at m ⊢
  rw [h.1 154 h0 (by decide), h.1 155 h1 (by decide), h.2.1 46 h3]
  exact m
theorem ruleM_same {rl : List Nat} (m : ruleM w rl) (h : sameR E F T Z w w') (h0 : 124 ∉ E) (h1 : 125 ∉ E) (h3 : 16 ∉ F) (hz : 1 ∉ Z) (hz2 : 2 ∉ Z) : ruleM w' rl := by
  obtain ⟨r1, r2, r3⟩ := m
  unfold ruleM
  rw [h.2.2.2 1 hz, h.2.2.2 2 hz2, h.2.1 16 h3]
  refine ⟨r1, r2, ?_⟩
  rw [h.1 (w.2.2 1) (by rcases r1 with r | r <;> rw [r.1] <;> assumption) (by rcases r1 with r | r <;> rw [r.1] <;> decide)]
  exact r3
theorem arrM_same (m : arrM w) (h : sameR E F T Z w w') (hE : ∀ a ∈ E, a ≠ 128 ∧ a ≠ 129 ∧ a ≠ 130 ∧ (a < 133 ∨ 140 ≤ a)) : arrM w' := by
  intro a ha
  obtain ⟨Q, hQ⟩ := m a ha
  exact ⟨Q, isM_same hQ h (fun z => by have := hE a z; omega) (by omega)⟩
theorem onM_sameR (h : sameR E F T Z w w') (hE : ∀ a ∈ E, 119 ≤ a) (hT : ∀ a ∈ T, a = 122) (h51 : 51 ∉ F) : onM w w' :=
  ⟨fun a ha => h.1 a (fun z => by have := hE a z; omega) (by omega), fun a ha => h.2.2.1 a (fun z => ha (hT a z)), h.2.1 51 h51⟩
end TM
