/-! what the class holds, what the reference holds, of one and the same state -/
def posC (w : Wd) : Prop := ∀ q, isPos q → ∃ c P, isAt w q c P
def histC (w : Wd) (c : Nat) (hs : List (Nat → Nat)) : Prop := ∃ nx, nx < 12 ∧ hs.length ≤ 12 ∧ w.1 78 1 = nI nx ∧ w.1 78 2 = nI hs.length ∧ ∀ i Q, hs[i]? = some Q → isAt w (15 + 3 * ((nx + 12 - hs.length + i) % 12)) c Q
def textC (w : Wd) (tx : List Nat) : Prop := w.1 80 1 = nI tx.length ∧ ∀ i x, tx[i]? = some x → w.1 81 i = nI x
def keptC (w : Wd) (c : Nat) (kp : Nat → Option (Nat → Nat)) : Prop := ∀ i, i < 2 → w.1 77 i = (if (kp i).isSome = true then 1 else 0) ∧ ∀ Q, kp i = some Q → isAt w (9 + 3 * i) c Q
def noteC (w : Wd) (o mx : Nat) (l : List (Int32 × Int32)) : Prop := w.1 o 2 = nI mx ∧ w.1 o 3 = nI l.length ∧ ∀ i a b, l[i]? = some (a, b) → w.1 (o + 1) i = a ∧ w.1 (o + 2) i = b
def greedC (w : Wd) : Prop := w.1 109 2 = nI 1 ∧ w.1 110 0 = -116
/-- the class's RULE as its codes -/
def ruleC (w : Wd) (cd : List Int32) : Prop := w.1 106 2 = nI cd.length ∧ ∀ i x, cd[i]? = some x → w.1 107 i = x
def CR (w : Wd) (c L : Nat) (P : Nat → Nat) (hs : List (Nat → Nat)) (tx : List Nat) (cd : List Int32) (kp : Nat → Option (Nat → Nat)) (cl si : List (Int32 × Int32)) (rw : List Int64) : Prop :=
  isAt w 0 c P ∧ w.1 75 18 = nI L ∧ posC w ∧ histC w c hs ∧ textC w tx ∧ rowC w rw ∧ keptC w c kp ∧ noteC w 112 12 cl ∧ noteC w 115 10 si ∧ ruleC w cd ∧ greedC w
def histM (w : Wd) (hs : List (Nat → Nat)) : Prop := w.1 119 23 = nI hs.length ∧ ∀ i Q, hs[i]? = some Q → ∀ k, k < 16 → w.1 127 (16 * i + k) = nI (Q k)
def textM (w : Wd) (tx : List Nat) : Prop := w.1 119 4 = nI tx.length ∧ ∀ i x, tx[i]? = some x → w.1 121 i = (nI x).toInt8.toInt32
def keptM (w : Wd) (kp : Nat → Option (Nat → Nat)) : Prop := ∃ cm, cm < 100000 ∧ w.1 119 51 = nI cm ∧ ∀ i, i < 2 → ∃ kc, kc ≤ cm ∧ w.1 160 i = nI kc ∧ (w.1 159 i = 0 ∨ w.1 159 i = 1) ∧ ((kp i).isSome = true ↔ (w.1 159 i = 1 ∧ kc = cm)) ∧ ∀ Q, kp i = some Q → ∀ k, k < 16 → w.1 158 (16 * i + k) = nI (Q k)
def heardM (w : Wd) (l : List (Int32 × Int32)) : Prop := w.1 119 43 = nI l.length ∧ ∀ i a b, l[i]? = some (a, b) → w.1 152 i = a ∧ w.1 153 i = b
def sawM (w : Wd) (l : List (Int32 × Int32)) : Prop := w.1 119 46 = nI l.length ∧ ∀ i a b, l[i]? = some (a, b) → w.1 154 i = a ∧ w.1 155 i = b
def arrM (w : Wd) : Prop := ∀ a, (a = 128 ∨ a = 129 ∨ a = 130 ∨ (133 ≤ a ∧ a < 140)) → ∃ Q, isM w a Q
/-- the reference's RULE as its signs -/
def ruleM (w : Wd) (rl : List Nat) : Prop := (w.2.2 1 = 124 ∧ w.2.2 2 = 125 ∨ w.2.2 1 = 125 ∧ w.2.2 2 = 124) ∧ w.1 119 16 = nI rl.length ∧ ∀ i x, rl[i]? = some x → w.1 (w.2.2 1) i = (nI x).toInt8.toInt32
def MR (w : Wd) (c L : Nat) (P : Nat → Nat) (hs : List (Nat → Nat)) (tx rl : List Nat) (kp : Nat → Option (Nat → Nat)) (cl si : List (Int32 × Int32)) (rw : List Int64) : Prop :=
  w.1 119 1 = nI c ∧ w.1 119 2 = nI L ∧ isM w 120 P ∧ histM w hs ∧ textM w tx ∧ rowM w rw ∧ keptM w kp ∧ heardM w cl ∧ sawM w si ∧ ruleM w rl ∧ arrM w
/-- what holds of the state itself -/
def okS (c L : Nat) (P : Nat → Nat) (hs : List (Nat → Nat)) (tx : List Nat) (kp : Nat → Option (Nat → Nat)) (cl si : List (Int32 × Int32)) (rw : List Int64) (B : Nat) : Prop :=
  2 ≤ c ∧ c ≤ 6 ∧ L < 64 ∧ (P 14 ≤ 1 ∧ tot P ≤ B) ∧ (hs.length ≤ 12 ∧ ∀ Q ∈ hs, Q 14 ≤ 1 ∧ tot Q ≤ B) ∧ (tx.length ≤ 80 ∧ ∀ x ∈ tx, x < 256) ∧ (∀ i Q, i < 2 → kp i = some Q → Q 14 ≤ 1 ∧ tot Q ≤ B) ∧ cl.length ≤ 12 ∧ (si.length ≤ 10 ∧ ∀ q ∈ si, q.2 ≠ -1) ∧ rw.length ≤ 20 ∧ B < 400000
/-- the class alone has changed, the reference alone has changed -/
def onC (w w1 : Wd) : Prop := (∀ a, 119 ≤ a → w1.1 a = w.1 a) ∧ (∀ a, a ≠ 83 → w1.2.1 a = w.2.1 a) ∧ w1.2.2 = w.2.2
def onM0 (w w1 : Wd) : Prop := (∀ a, a < 119 → w1.1 a = w.1 a) ∧ ∀ a, a ≠ 122 → w1.2.1 a = w.2.1 a
def onM (w w1 : Wd) : Prop := (∀ a, a < 119 → w1.1 a = w.1 a) ∧ (∀ a, a ≠ 122 → w1.2.1 a = w.2.1 a) ∧ w1.1 119 51 = w.1 119 51
theorem MR_on {w w1 : Wd} (h : onC w w1) {c L : Nat} {P : Nat → Nat} {hs : List (Nat → Nat)} {tx rl : List Nat} {kp : Nat → Option (Nat → Nat)} {cl si : List (Int32 × Int32)} {rw : List Int64} (m : MR w c L P hs tx rl kp cl si rw) : MR w1 c L P hs tx rl kp cl si rw := by
  obtain ⟨h1, h2, h3⟩ := h
  have e122 := h2 122 (by decide)
  unfold MR histM textM rowM keptM heardM sawM ruleM arrM isM at m ⊢
  rw [h1 119 (by decide), h1 120 (by decide), h1 127 (by decide), h1 121 (by decide), h1 160 (by decide), h1 159 (by decide), h1 158 (by decide), h1 152 (by decide), h1 153 (by decide), h1 154 (by decide), h1 155 (by decide), e122, h3]
  refine ⟨m.1, m.2.1, m.2.2.1, m.2.2.2.1, m.2.2.2.2.1, m.2.2.2.2.2.1, m.2.2.2.2.2.2.1, m.2.2.2.2.2.2.2.1, m.2.2.2.2.2.2.2.2.1, ?_, ?_⟩
  · obtain ⟨r1, r2, r3⟩ := m.2.2.2.2.2.2.2.2.2.1
    refine ⟨r1, r2, fun i x hx => ?_⟩
    rw [h1 (w.2.2 1) (by rcases r1 with r | r <;> rw [r.1] <;> decide)]
    exact r3 i x hx
  · intro a ha
    rw [h1 a (by omega)]
    exact m.2.2.2.2.2.2.2.2.2.2 a ha
theorem CR_on0 {w w1 : Wd} (h : onM0 w w1) {c L : Nat} {P : Nat → Nat} {hs : List (Nat → Nat)} {tx : List Nat} {cd : List Int32} {kp : Nat → Option (Nat → Nat)} {cl si : List (Int32 × Int32)} {rw : List Int64} (m : CR w c L P hs tx cd kp cl si rw) : CR w1 c L P hs tx cd kp cl si rw := by
  obtain ⟨h1, h2⟩ := h
  have e83 := h2 83 (by decide)
  have hat : ∀ q c' P', isPos q → (isAt w q c' P' ↔ isAt w1 q c' P') := by
    intro q c' P' hq
    unfold isAt
    have := hq.1
    rw [h1 q (by omega), h1 (q + 1) (by omega), h1 (q + 2) (by omega)]
  obtain ⟨m1, m2, m3, m4, m5, m6, m7, m8, m9, m10, m11⟩ := m
  refine ⟨(hat 0 c P (by decide)).mp m1, by rw [h1 75 (by decide)]; exact m2, fun q hq => ?_, ?_, ?_, ?_, ?_, ?_, ?_, ?_, ?_⟩
  · obtain ⟨c', P', z⟩ := m3 q hq
    exact ⟨c', P', (hat q c' P' hq).mp z⟩
  · obtain ⟨nx, n1, n2, n3, n4, n5⟩ := m4
    refine ⟨nx, n1, n2, by rw [h1 78 (by decide)]; exact n3, by rw [h1 78 (by decide)]; exact n4, fun i Q hi => (hat _ c Q ⟨?_, by omega⟩).mp (n5 i Q hi)⟩
    have := Nat.mod_lt (nx + 12 - hs.length + i) (show 12 > 0 by decide)
    omega
  · unfold textC
    rw [h1 80 (by decide), h1 81 (by decide)]
    exact m5
  · unfold rowC
    rw [h1 82 (by decide), e83]
    exact m6
  · intro i hi
    rw [h1 77 (by decide)]
    exact ⟨(m7 i hi).1, fun Q hQ => (hat _ c Q ⟨by omega, by omega⟩).mp ((m7 i hi).2 Q hQ)⟩
  · unfold noteC
    rw [h1 112 (by decide), h1 (112 + 1) (by decide), h1 (112 + 2) (by decide)]
    exact m8
  · unfold noteC
    rw [h1 115 (by decide), h1 (115 + 1) (by decide), h1 (115 + 2) (by decide)]
    exact m9
  · unfold ruleC
    rw [h1 106 (by decide), h1 107 (by decide)]
    exact m10
  · unfold greedC
    rw [h1 109 (by decide), h1 110 (by decide)]
    exact m11
theorem CR_on {w w1 : Wd} (h : onM w w1) {c L : Nat} {P : Nat → Nat} {hs : List (Nat → Nat)} {tx : List Nat} {cd : List Int32} {kp : Nat → Option (Nat → Nat)} {cl si : List (Int32 × Int32)} {rw : List Int64} (m : CR w c L P hs tx cd kp cl si rw) : CR w1 c L P hs tx cd kp cl si rw := CR_on0 ⟨h.1, h.2.1⟩ m
theorem onC_tr {w w1 w2 : Wd} (h1 : onC w w1) (h2 : onC w1 w2) : onC w w2 := ⟨fun a ha => (h2.1 a ha).trans (h1.1 a ha), fun a ha => (h2.2.1 a ha).trans (h1.2.1 a ha), h2.2.2.trans h1.2.2⟩
theorem onM_tr {w w1 w2 : Wd} (h1 : onM w w1) (h2 : onM w1 w2) : onM w w2 := ⟨fun a ha => (h2.1 a ha).trans (h1.1 a ha), fun a ha => (h2.2.1 a ha).trans (h1.2.1 a ha), h2.2.2.trans h1.2.2⟩
theorem onC_wI {w : Wd} {i k : Nat} {v : Int32} (hi : i < 119) : onC w (wI w i k v) := by
  refine ⟨fun a ha => ?_, fun _ _ => rfl, rfl⟩
  rw [wI_wR, wR_ne (by omega)]
theorem onM_wI {w : Wd} {i k : Nat} {v : Int32} (hi : 119 ≤ i) (hk : k ≠ 51) : onM w (wI w i k v) := by
  refine ⟨fun a ha => ?_, fun _ _ => rfl, ?_⟩
  · rw [wI_wR, wR_ne (by omega)]
  · show (if 119 = i ∧ 51 = k then v else w.1 119 51) = _
    rw [if_neg (fun z => hk z.2.symm)]
/-- rows that stay, but those of E -/
def but (E : List Nat) (w w1 : Wd) : Prop := (∀ a, a ∉ E → w1.1 a = w.1 a) ∧ w1.2 = w.2
theorem but_tr {E : List Nat} {w w1 w2 : Wd} (h1 : but E w w1) (h2 : but E w1 w2) : but E w w2 := ⟨fun a ha => (h2.1 a ha).trans (h1.1 a ha), h2.2.trans h1.2⟩
theorem but_wI {E : List Nat} {w : Wd} {i k : Nat} {v : Int32} (hi : i ∈ E) : but E w (wI w i k v) := by
  refine ⟨fun a ha => ?_, rfl⟩
  have : a ≠ i := fun e => ha (e ▸ hi)
  rw [wI_wR, wR_ne this]
theorem at_but {E : List Nat} {w w1 : Wd} (h : but E w w1) {q c : Nat} {P : Nat → Nat} (h0 : q ∉ E) (h1 : q + 1 ∉ E) (h2 : q + 2 ∉ E) (m : isAt w q c P) : isAt w1 q c P := by
  unfold isAt
  rw [h.1 q h0, h.1 (q + 1) h1, h.1 (q + 2) h2]
  exact m
section NT
variable {w : Wd} {o mx : Nat} {l : List (Int32 × Int32)}
theorem d_note {a b : Int32} (h : noteC w o mx l) (hmx : mx ≤ 12) (hl : l.length < mx) : ∃ w1, D_X2_add o a b w = some (1, w1) ∧ noteC w1 o mx (l ++ [(a, b)]) ∧ but [o, o + 1, o + 2] w w1 ∧ w1.1 o 3 = nI (l.length + 1) := by
  obtain ⟨h1, h2, h3⟩ := h
  have e1 : o ≠ o + 1 := by omega
  have e2 : o ≠ o + 2 := by omega
  have e3 : o + 1 ≠ o + 2 := by omega
  have e4 : o + 1 ≠ o := by omega
  have e5 : o + 2 ≠ o := by omega
  have hib : ib (nI l.length) 12 = true := ib_nI (by omega) (by omega)
  refine ⟨wI (wI (wI w (o + 1) l.length a) (o + 2) l.length b) o 3 (nI (l.length + 1)), ?_, ⟨?_, ?_, fun i x y hi => ?_⟩, ?_, wI_at⟩
  · unfold D_X2_add
    rw [h1, h2, if_pos (nI_lt hl (by omega)), if_pos hib, bd_eq, nI_clamp (by omega), wI_wR w, wR_ne e1, h2, if_pos hib, bd_eq, bd_eq, nI_clamp (by omega), wI_wR (wR w (o + 1) _), wR_ne e2, wR_ne e1, h2, nI_1]
  · rw [wI_at_ne (by decide), wI_wR, wR_ne e2, wI_wR, wR_ne e1, h1]
  · rw [wI_at, List.length_append]
    rfl
  · have r1 : (wI (wI (wI w (o + 1) l.length a) (o + 2) l.length b) o 3 (nI (l.length + 1))).1 (o + 1) i = (wI w (o + 1) l.length a).1 (o + 1) i := by
      rw [wI_wR (wI (wI w (o + 1) l.length a) (o + 2) l.length b), wR_ne e4, wI_wR (wI w (o + 1) l.length a), wR_ne e3]
    have r2 : (wI (wI (wI w (o + 1) l.length a) (o + 2) l.length b) o 3 (nI (l.length + 1))).1 (o + 2) i = (wI (wI w (o + 1) l.length a) (o + 2) l.length b).1 (o + 2) i := by
      rw [wI_wR (wI (wI w (o + 1) l.length a) (o + 2) l.length b), wR_ne e5]
    rw [r1, r2]
    by_cases e : i = l.length
    · subst e
      rw [List.getElem?_append_right (Nat.le_refl _), Nat.sub_self] at hi
      cases hi
      exact ⟨wI_at, wI_at⟩
    · have hb : i < (l ++ [(a, b)]).length := (List.getElem?_eq_some_iff.mp hi).1
      rw [List.length_append] at hb
      have hb' : i < l.length := by
        have : [(a, b)].length = 1 := rfl
        omega
      rw [List.getElem?_append_left hb'] at hi
      rw [wI_at_ne e, wI_at_ne e, wI_wR w, wR_ne (fun z => e3 z.symm)]
      exact h3 i x y hi
  · exact but_tr (but_tr (but_wI (by simp)) (but_wI (by simp))) (but_wI (by simp))
theorem d_note_full {a b : Int32} (h : noteC w o mx l) (hmx : mx ≤ 12) (hl : l.length = mx) : D_X2_add o a b w = some (0, w) := by
  obtain ⟨h1, h2, h3⟩ := h
  unfold D_X2_add
  rw [h1, h2, if_neg (nI_nlt (by omega) (by omega))]
end NT
