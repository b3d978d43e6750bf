/-! kinds of cells that a method may be handed; joins, switches, copies -/
def FU : Nat := 1000000
def ln (a : Nat) : Nat := (sh a).2.1
abbrev isPos (q : Nat) : Prop := q < 75 ∧ q % 3 = 0
abbrev isMove (q : Nat) : Prop := q = 84 ∨ q = 86 ∨ q = 97
abbrev isRule (q : Nat) : Prop := q = 103 ∨ q = 106 ∨ q = 109
abbrev isNotes (q : Nat) : Prop := q = 112 ∨ q = 115
abbrev isIA (a : Nat) : Prop := (sh a).1 = 1 ∧ a < vN ∧ (sh a).2.2 = 0
theorem isPos_sh {q : Nat} (h : isPos q) : sh q = (7, 5, 0) := by
  unfold sh
  rw [if_pos h.1, if_pos h.2]
theorem isPos_lt {q : Nat} (h : isPos q) : q < vN := by
  have := h.1
  show q < 162
  omega
theorem isPos_s1 {q : Nat} (h : isPos q) : sh (q + 1) = (1, 12, 0) := by
  have h1 := h.1
  have h2 := h.2
  unfold sh
  rw [if_pos (by omega), if_neg (by omega), if_pos (by omega)]
theorem isPos_s2 {q : Nat} (h : isPos q) : sh (q + 2) = (1, 2, 0) := by
  have h1 := h.1
  have h2 := h.2
  unfold sh
  rw [if_pos (by omega), if_neg (by omega), if_neg (by omega)]
theorem isPos_l1 {q : Nat} (h : isPos q) : q + 1 < vN := by
  have := h.1
  show q + 1 < 162
  omega
theorem isPos_l2 {q : Nat} (h : isPos q) : q + 2 < vN := by
  have := h.1
  show q + 2 < 162
  omega
theorem isPos_i1 {q : Nat} (h : isPos q) : isIA (q + 1) := ⟨by rw [isPos_s1 h], isPos_l1 h, by rw [isPos_s1 h]⟩
theorem isPos_i2 {q : Nat} (h : isPos q) : isIA (q + 2) := ⟨by rw [isPos_s2 h], isPos_l2 h, by rw [isPos_s2 h]⟩
theorem isMove_sh {q : Nat} (h : isMove q) : sh q = (7, 1, 0) := by rcases h with h | h | h <;> subst h <;> rfl
theorem isMove_lt {q : Nat} (h : isMove q) : q < vN := by rcases h with h | h | h <;> subst h <;> decide
theorem isRule_sh {q : Nat} (h : isRule q) : sh q = (7, 6, 0) := by rcases h with h | h | h <;> subst h <;> rfl
theorem isRule_lt {q : Nat} (h : isRule q) : q < vN := by rcases h with h | h | h <;> subst h <;> decide
theorem isRule_s1 {q : Nat} (h : isRule q) : sh (q + 1) = (1, 40, 0) := by rcases h with h | h | h <;> subst h <;> rfl
theorem isRule_s2 {q : Nat} (h : isRule q) : sh (q + 2) = (1, 40, 0) := by rcases h with h | h | h <;> subst h <;> rfl
theorem isRule_l1 {q : Nat} (h : isRule q) : q + 1 < vN := by rcases h with h | h | h <;> subst h <;> decide
theorem isRule_l2 {q : Nat} (h : isRule q) : q + 2 < vN := by rcases h with h | h | h <;> subst h <;> decide
theorem isRule_i1 {q : Nat} (h : isRule q) : isIA (q + 1) := ⟨by rw [isRule_s1 h], isRule_l1 h, by rw [isRule_s1 h]⟩
theorem isRule_i2 {q : Nat} (h : isRule q) : isIA (q + 2) := ⟨by rw [isRule_s2 h], isRule_l2 h, by rw [isRule_s2 h]⟩
theorem isNotes_sh {q : Nat} (h : isNotes q) : sh q = (7, 2, 0) := by rcases h with h | h <;> subst h <;> rfl
theorem isNotes_lt {q : Nat} (h : isNotes q) : q < vN := by rcases h with h | h <;> subst h <;> decide
theorem isNotes_s1 {q : Nat} (h : isNotes q) : sh (q + 1) = (1, 12, 0) := by rcases h with h | h <;> subst h <;> rfl
theorem isNotes_s2 {q : Nat} (h : isNotes q) : sh (q + 2) = (1, 12, 0) := by rcases h with h | h <;> subst h <;> rfl
theorem isNotes_l1 {q : Nat} (h : isNotes q) : q + 1 < vN := by rcases h with h | h <;> subst h <;> decide
theorem isNotes_l2 {q : Nat} (h : isNotes q) : q + 2 < vN := by rcases h with h | h <;> subst h <;> decide
theorem isNotes_i1 {q : Nat} (h : isNotes q) : isIA (q + 1) := ⟨by rw [isNotes_s1 h], isNotes_l1 h, by rw [isNotes_s1 h]⟩
theorem isNotes_i2 {q : Nat} (h : isNotes q) : isIA (q + 2) := ⟨by rw [isNotes_s2 h], isNotes_l2 h, by rw [isNotes_s2 h]⟩
theorem isIA_sh {a : Nat} (h : isIA a) : sh a = (1, ln a, 0) := Prod.ext h.1 (Prod.ext rfl h.2.2)
theorem isIA_lt {a : Nat} (h : isIA a) : a < vN := h.2.1
theorem bq_sh {q : Nat} (h : bq q = true) : sh q = (2, ln q, 0) := by
  simp only [bq, Bool.or_eq_true, beq_iff_eq] at h
  rcases h with (h | h) | h <;> subst h <;> rfl
theorem bq_lt {q : Nat} (h : bq q = true) : q < vN := (bq_ok h).2.1
theorem posA {f n t i : Nat} (hf : f % 3 = 0) (hb : f + 3 * n ≤ 75) (ht : t = f + 3 * i) (hl : i < n) : isPos t := ⟨by omega, by omega⟩
theorem iaA {f n t i : Nat} (hall : ∀ j, j < n → isIA (f + j)) (ht : t = f + i) (hl : i < n) : isIA t := by
  subst ht
  exact hall i hl
theorem bd_ex {α β : Type} {a : α} {K : α → Option β} {rr : β} (h : bd a K = some rr) : ∃ y, y = a ∧ K y = some rr := ⟨a, rfl, h⟩
theorem g_join {κ β : Type} {K : κ} {F : κ → Option β} {rr : β} {goal : Prop} {P : κ → Prop} (hD : bd K F = some rr) (hJ : P K) (kk : ∀ k, P k → F k = some rr → goal) : goal := kk K hJ hD
theorem g_cas {β : Type} {c : Prop} [Decidable c] {A B : Option β} {rr : β} {goal : Prop} (hD : (if c then A else B) = some rr) (k1 : c → A = some rr → goal) (k2 : ¬ c → B = some rr → goal) : goal := by
  by_cases q : c
  · rw [if_pos q] at hD
    exact k1 q hD
  · rw [if_neg q] at hD
    exact k2 q hD
def cpb (sp dp n : Int32) (n0 n1 : Nat) : Bool := decide (0 ≤ sp) && decide (0 ≤ dp) && decide (0 ≤ n) && decide (sp.toNatClampNeg + n.toNatClampNeg ≤ n0) && decide (dp.toNatClampNeg + n.toNatClampNeg ≤ n1)
def wC (w : Wd) (a b : Nat) (sp dp n : Int32) : Wd := (fun i k => if i = b then va_cpy (w.1 a) (w.1 b) sp.toNatClampNeg dp.toNatClampNeg n.toNatClampNeg k else w.1 i k, w.2)
theorem wC_ne {ρ : Nat → Nat} {cs : Nat → ClassId} {w : Wd} {a b j : Nat} {sp dp n : Int32} (h : j ≠ b) : cel ρ cs (wC w a b sp dp n) j = cel ρ cs w j := by
  have : (wC w a b sp dp n).1 j = w.1 j := by
    funext k
    simp [wC, h]
  unfold cel
  rw [this]
  rfl
theorem wC_row (w : Wd) (a b : Nat) (sp dp n : Int32) : (wC w a b sp dp n).1 b = va_cpy (w.1 a) (w.1 b) sp.toNatClampNeg dp.toNatClampNeg n.toNatClampNeg := by
  funext k
  simp [wC]
theorem acp_n : Cond.native arraycopyName ∈ vtb := vtb_at 742 (by decide +kernel) rfl
theorem acp_s : Cond.static arraycopyName ∈ vtb := vtb_at 741 (by decide +kernel) rfl
theorem acp_i : Cond.initialized "java/lang/System" ∈ vtb := vtb_at 160 (by decide +kernel) rfl
section GA
variable {l0 : Launch} {ρ : Nat → Nat} {cs : Nat → ClassId} {G : va_G} {X : Cx} {cc : ByteArray} {own : String} {d : Nat} {pc : Nat} {L L' : List (Nat × Value)} {st : List Value} {w : Wd} {α : Type} {B E : Option α} {rr : α}
theorem g_lsw (h : Okx l0 ρ cs G X cc own d) {dflt : Int} {ps : Array (Int × Int)} {len : Nat} {x : Int32} {off : Int} {tgt : Nat} (hd : decode cc pc = .ok (.lookupswitch dflt ps, len)) (hp : (ps.toList.zip (ps.toList.drop 1)).all (fun (a, next) => a.1 < next.1) = true) (ho : Op.lookupswitch.offset ps.toList dflt x.toInt = off) (ht : (pc : Int) + off = (tgt : Int)) (kk : gG ρ cs G X tgt L st w) : gG ρ cs G X pc L (.int x :: st) w := by
  obtain ⟨p, l, e, R, s, m, args, below, meth, c, n, kc, ks, Q⟩ := X
  obtain ⟨hll, hx, hb, hml, hown, hts, hK, hin, hR, hO⟩ := h
  intro H locs ls hP hS hl
  exact lv_lookup hx hb hd hp ho ht (kk H locs ls hP hS hl)
theorem g_tswO (h : Okx l0 ρ cs G X cc own d) {dflt lo hi : Int} {offs : Array Int} {len : Nat} {x : Int32} {tgt : Nat} (hd : decode cc pc = .ok (.tableswitch dflt lo hi offs, len)) (ho : x.toInt < lo ∨ hi < x.toInt) (ht : (pc : Int) + dflt = (tgt : Int)) (kk : gG ρ cs G X tgt L st w) : gG ρ cs G X pc L (.int x :: st) w := by
  obtain ⟨p, l, e, R, s, m, args, below, meth, c, n, kc, ks, Q⟩ := X
  obtain ⟨hll, hx, hb, hml, hown, hts, hK, hin, hR, hO⟩ := h
  intro H locs ls hP hS hl
  exact lv_tableOut hx hb hd ho ht (kk H locs ls hP hS hl)
theorem g_tswI (h : Okx l0 ρ cs G X cc own d) {dflt lo hi : Int} {offs : Array Int} {len : Nat} {x : Int32} {off : Int} {tgt : Nat} (hd : decode cc pc = .ok (.tableswitch dflt lo hi offs, len)) (h1 : ¬ x.toInt < lo) (h2 : ¬ hi < x.toInt) (ho : offs[(x.toInt - lo).toNat]? = some off) (ht : (pc : Int) + off = (tgt : Int)) (kk : gG ρ cs G X tgt L st w) : gG ρ cs G X pc L (.int x :: st) w := by
  obtain ⟨p, l, e, R, s, m, args, below, meth, c, n, kc, ks, Q⟩ := X
  obtain ⟨hll, hx, hb, hml, hown, hts, hK, hin, hR, hO⟩ := h
  intro H locs ls hP hS hl
  exact lv_tableIn hx hb hd h1 h2 ho ht (kk H locs ls hP hS hl)
theorem g_acpy (h : Okx l0 ρ cs G X cc own d) {n0 : Nat} (hn0 : X.2.2.2.2.2.2.2.2.2.2.1 = n0) {idx m0 m1 f0 f1 : Nat} {sp dp k : Int32} {K : Wd → Option α} (a b : Nat) (ha : sh a = (1, m0, f0)) (hla : a < vN) (hb' : sh b = (1, m1, f1)) (hlb : b < vN) (hlk : Cond.methodLink own idx arraycopyName ∈ vtb) (hcat : (st.map fun v => v.category).sum ≤ 8) (hd : decode cc pc = .ok (.invokestatic idx, 3))
    (hD : (if cpb sp dp k m0 m1 then bd (wC w a b sp dp k) K else none) = some rr) (kk : ∀ w', K w' = some rr → gG ρ cs G X (pc + 3) L st w') : gG ρ cs G X pc L (.int k :: .int dp :: .ref (ρ b) :: .int sp :: .ref (ρ a) :: st) w := by
  obtain ⟨hq, hD⟩ := of_ite hD
  obtain ⟨p, l, e, R, s, m, args, below, meth, c, n, kc, ks, Q⟩ := X
  obtain ⟨hll, hx, hb, hml, hown, hts, hK, hin, hR, hO⟩ := h
  intro H locs ls hP hS hl
  simp only [cpb, Bool.and_eq_true, decide_eq_true_eq] at hq
  obtain ⟨⟨⟨⟨q1, q2⟩, q3⟩, q4⟩, q5⟩ := hq
  have he0 : (cells ρ cs w)[a]? = some (ρ a, .inl (cs 0, m0, .inl (w.1 a))) := cells_get hla (by unfold cel; rw [ha]; rfl)
  have he1 : (cells ρ cs w)[b]? = some (ρ b, .inl (cs 0, m1, .inl (w.1 b))) := cells_get hlb (by unfold cel; rw [hb']; rfl)
  have hnw : nativeFrameWords "java/lang/System" "arraycopy" 5 + 11 ≤ 56 := by decide +kernel
  refine va_copyi (ty := .int) hx hb (hml.trans hl.1.symm) hown (hts _ hlk) (hts _ acp_n) (hts _ acp_s) (hts _ acp_i) hK hP (cells_D hin) hS a b 0 0 he0 he1 rfl rfl rfl (Int32.not_lt.mpr q1) (Int32.not_lt.mpr q2) (Int32.not_lt.mpr q3) q4 q5 (fun _ _ => rfl) (by have := hR.1; omega) (by have := hR.2.1; omega) hd (fun H1 locs1 g1 _ g2 => kk _ hD H1 locs1 ls ?_ g2 hl)
  rw [← cells_set (w' := wC w a b sp dp k) (by unfold cel; rw [hb', wC_row]) (fun j hj => wC_ne hj)]
  exact g1
end GA
theorem mm_max_s : Cond.static Lib.Math.max.name ∈ vtb := vtb_at 624 (by decide +kernel) rfl
theorem mm_max_c : Cond.code Lib.Math.max.name Lib.Math.max.code 2 (some .int) ∈ vtb := vtb_at 625 (by decide +kernel) rfl
theorem mm_min_s : Cond.static Lib.Math.min.name ∈ vtb := vtb_at 445 (by decide +kernel) rfl
theorem mm_min_c : Cond.code Lib.Math.min.name Lib.Math.min.code 2 (some .int) ∈ vtb := vtb_at 446 (by decide +kernel) rfl
theorem mm_i : Cond.initialized "java/lang/Math" ∈ vtb := vtb_at 151 (by decide +kernel) rfl
def imax (x y : Int32) : Int32 := if x < y then y else x
def imin (x y : Int32) : Int32 := if y < x then y else x
section GM
variable {l0 : Launch} {ρ : Nat → Nat} {cs : Nat → ClassId} {G : va_G} {X : Cx} {cc : ByteArray} {own : String} {d : Nat} {pc : Nat} {L L' : List (Nat × Value)} {st : List Value} {w : Wd}
theorem g_mmax (h : Okx l0 ρ cs G X cc own d) {idx : Nat} {x y : Int32} (hlk : Cond.methodLink own idx Lib.Math.max.name ∈ vtb) (hcat : (st.map fun v => v.category).sum ≤ 8) (hd : decode cc pc = .ok (.invokestatic idx, 3)) (kk : gG ρ cs G X (pc + 3) L (.int (imax x y) :: st) w) : gG ρ cs G X pc L (.int y :: .int x :: st) w := by
  obtain ⟨p, l, e, R, s, m, args, below, meth, c, n, kc, ks, Q⟩ := X
  obtain ⟨hll, hx, hb, hml, hown, hts, hK, hin, hR, hO⟩ := h
  intro H locs ls hP hS hl
  exact va_mmax hx hb (hml.trans hl.1.symm) hown (hts _ hlk) (hts _ mm_max_s) (hts _ mm_i) (hts _ mm_max_c) (by have := hR.1; omega) (by have := hR.2.1; omega) hR.2.2.1 hR.2.2.2 hd (kk H locs ls hP hS hl)
theorem g_mmin (h : Okx l0 ρ cs G X cc own d) {idx : Nat} {x y : Int32} (hlk : Cond.methodLink own idx Lib.Math.min.name ∈ vtb) (hcat : (st.map fun v => v.category).sum ≤ 8) (hd : decode cc pc = .ok (.invokestatic idx, 3)) (kk : gG ρ cs G X (pc + 3) L (.int (imin x y) :: st) w) : gG ρ cs G X pc L (.int y :: .int x :: st) w := by
  obtain ⟨p, l, e, R, s, m, args, below, meth, c, n, kc, ks, Q⟩ := X
  obtain ⟨hll, hx, hb, hml, hown, hts, hK, hin, hR, hO⟩ := h
  intro H locs ls hP hS hl
  exact va_mmin hx hb (hml.trans hl.1.symm) hown (hts _ hlk) (hts _ mm_min_s) (hts _ mm_i) (hts _ mm_min_c) (by have := hR.1; omega) (by have := hR.2.1; omega) hR.2.2.1 hR.2.2.2 hd (kk H locs ls hP hS hl)
end GM
