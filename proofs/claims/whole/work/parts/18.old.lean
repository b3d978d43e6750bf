/-! the two texts, the static row -/
def sidx (i : Nat) (c : Int32) : Int32 := if i = 0 then (if c = 115 then 0 else if c = 114 then 1 else if c = 99 then 2 else if c = 107 then 3 else if c = 120 then 4 else if c = 116 then 5 else -1) else (if c = 116 then 0 else if c = 97 then 1 else if c = 112 then 2 else if c = 110 then 3 else if c = 108 then 4 else if c = 101 then 5 else if c = 111 then 6 else -1)
def told5 (j : Nat) : Int32 := ([1, 9, 9, 5, 1] : List Int32).getD j 0
section GO
variable {l0 : Launch} {ρ : Nat → Nat} {cs : Nat → ClassId} {G : va_G} {X : Cx} {cc : ByteArray} {own : String} {d : Nat} {pc : Nat} {L L' : List (Nat × Value)} {st : List Value} {w : Wd} {α : Type} {B : Option α} {rr : α}
theorem g_gst (h : Okx l0 ρ cs G X cc own d) {idx : Nat} (hf : Cond.fieldLink own idx "SowingBoards" "MOST_TOLD" "[I" ∈ vtb) (hd : decode cc pc = .ok (.getstatic idx, 3)) (kk : gG ρ cs G X (pc + 3) L (.ref (ρ 202) :: st) w) : gG ρ cs G X pc L st w := by
  obtain ⟨p, l, e, R, s, m, args, below, meth, c, n, kc, ks, Q⟩ := X
  obtain ⟨hll, hx, hb, hml, hown, hts, hK, hin, hR, hO⟩ := h
  intro H locs ls hP hS hl
  exact va_gets hx hb hO.2.2.2.1 hS hown (hts _ hf) (fun _ z => z) hd (kk H locs ls hP hS hl)
theorem g_tald (h : Okx l0 ρ cs G X cc own d) {i : Int32} (hd : decode cc pc = .ok (.iaload, 1)) (hD : (if ib i 5 then B else none) = some rr) (kk : B = some rr → gG ρ cs G X (pc + 1) L (.int (told5 i.toNatClampNeg) :: st) w) : gG ρ cs G X pc L (.int i :: .ref (ρ 202) :: st) w := by
  obtain ⟨p, l, e, R, s, m, args, below, meth, c, n, kc, ks, Q⟩ := X
  obtain ⟨hll, hx, hb, hml, hown, hts, hK, hin, hR, hO⟩ := h
  have hq := of_ite hD
  intro H locs ls hP hS hl
  obtain ⟨cell, t1, t2, t3, t4, t5, t6, t7⟩ := hO.2.2.2.2.1
  have hlt : i.toNatClampNeg < 5 := Nat.not_le.mp fun z => ib_in hq.1 (Or.inr z)
  refine W.iald (v := .int (told5 i.toNatClampNeg)) hx hb (by rw [hS.2.1 _ (Array.getElem?_eq_some_iff.mp t1).1 t7]; exact t1) t2 t3 (fun z => ?_) (t6 _ hlt) rfl rfl hd (kk hq.2 H locs ls hP hS hl)
  rcases z with z | z
  · exact ib_in hq.1 (Or.inl z)
  · omega
theorem g_talen (h : Okx l0 ρ cs G X cc own d) (hd : decode cc pc = .ok (.arraylength, 1)) (kk : gG ρ cs G X (pc + 1) L (.int 5 :: st) w) : gG ρ cs G X pc L (.ref (ρ 202) :: st) w := by
  obtain ⟨p, l, e, R, s, m, args, below, meth, c, n, kc, ks, Q⟩ := X
  obtain ⟨hll, hx, hb, hml, hown, hts, hK, hin, hR, hO⟩ := h
  intro H locs ls hP hS hl
  obtain ⟨cell, t1, t2, t3, t4, t5, t6, t7⟩ := hO.2.2.2.2.1
  exact W.alen (n := 5) hx hb (by rw [hS.2.1 _ (Array.getElem?_eq_some_iff.mp t1).1 t7]; exact t1) t2 t5 rfl rfl hd (kk H locs ls hP hS hl)
/-- which text a class's entry is -/
def strE (own : String) (idx i : Nat) : Prop := (own = "SowingBoards" ∧ idx = 173 ∧ i = 0) ∨ (own = "SowingBoards$Rule" ∧ idx = 51 ∧ i = 1)
theorem g_sldc (h : Okx l0 ρ cs G X cc own d) {idx i : Nat} (hi : strE own idx i) (hd : decode cc pc = .ok (.ldc idx, 2)) (kk : gG ρ cs G X (pc + 2) L (.ref (ρ (200 + i)) :: st) w) : gG ρ cs G X pc L st w := by
  sorry
theorem g_sidx (h : Okx l0 ρ cs G X cc own d) {idx : Nat} {c : Int32} (i : Nat) (hi : i < 2) (hc : (0 ≤ c) ∧ c < 65536) (hdd : 8 < d) (hf : Cond.methodLink own idx ⟨"java/lang/String", "indexOf", "(I)I"⟩ ∈ vtb) (hcat : (st.map fun v => v.category).sum ≤ 8) (hd : decode cc pc = .ok (.invokevirtual idx, 3)) (kk : gG ρ cs G X (pc + 3) L (.int (sidx i c) :: st) w) : gG ρ cs G X pc L (.int c :: .ref (ρ (200 + i)) :: st) w := by
  sorry
theorem i2c_rng (x : Int32) : (0 ≤ (x.toUInt32 % 65536).toInt32) ∧ (x.toUInt32 % 65536).toInt32 < 65536 := by
  sorry
end GO
