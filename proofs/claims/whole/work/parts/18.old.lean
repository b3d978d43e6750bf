/-! the two texts, the static row -/
def sidx (i : Nat) (c : Int32) : Int32 := if i = 0 then (if c = 115 then 0 else if c = 114 then 1 else if c = 99 then 2 else if c = 107 then 3 else if c = 120 then 4 else if c = 116 then 5 else -1) else (if c = 116 then 0 else if c = 97 then 1 else if c = 112 then 2 else if c = 110 then 3 else if c = 108 then 4 else if c = 101 then 5 else if c = 111 then 6 else -1)
def told5 (j : Nat) : Int32 := ([1, 9, 9, 5, 1] : List Int32).getD j 0
section GO
variable {l0 : Launch} {ρ : Nat → Nat} {cs : Nat → ClassId} {G : va_G} {X : Cx} {cc : ByteArray} {own : String} {d : Nat} {pc : Nat} {L L' : List (Nat × Value)} {st : List Value} {w : Wd} {α : Type} {B : Option α} {rr : α}
theorem g_gst (h : Okx l0 ρ cs G X cc own d) {idx : Nat} (hf : Cond.fieldLink own idx "SowingBoards" "MOST_TOLD" "[I" ∈ vtb) (hd : decode cc pc = .ok (.getstatic idx, 3)) (kk : gG ρ cs G X (pc + 3) L (.ref (ρ 202) :: st) w) : gG ρ cs G X pc L st w := by
  obtain ⟨p, l, e, R, s, m, args, below, meth, c, n, kc, ks, Q⟩ := X
  obtain ⟨hll, hx, hb, hml, hown, hts, hK, hin, hR, hO⟩ := h
  intro H locs ls hP hS hl
  exact va_gets hx hb hO.2.2.2.1 hS hown (hts _ hf) (fun _ z => z) hd (kk H locs ls hP hS hl)
theorem g_tald (h : Okx l0 ρ cs G X cc own d) {i : Int32} (hd : decode cc pc = .ok (.iaload, 1)) (hD : (if ib i 5 then B else none) = some rr) (kk : B = some rr → gG ρ cs G X (pc + 1) L (.int (told5 i.toNatClampNeg) :: st) w) : gG ρ cs G X pc L (.int i :: .ref (ρ 202) :: st) w := by
  obtain ⟨p, l, e, R, s, m, args, below, meth, c, n, kc, ks, Q⟩ := X
  obtain ⟨hll, hx, hb, hml, hown, hts, hK, hin, hR, hO⟩ := h
  have hq := of_ite hD
  intro H locs ls hP hS hl
  obtain ⟨cell, t1, t2, t3, t4, t5, t6, t7⟩ := hO.2.2.2.2.1
  have hlt : i.toNatClampNeg < 5 := Nat.not_le.mp fun z => ib_in hq.1 (Or.inr z)
  refine W.iald (v := .int (told5 i.toNatClampNeg)) hx hb (by rw [hS.2.1 _ (Array.getElem?_eq_some_iff.mp t1).1 t7]; exact t1) t2 t3 (fun z => ?_) (t6 _ hlt) rfl rfl hd (kk hq.2 H locs ls hP hS hl)
  rcases z with z | z
  · exact ib_in hq.1 (Or.inl z)
  · omega
theorem g_talen (h : Okx l0 ρ cs G X cc own d) (hd : decode cc pc = .ok (.arraylength, 1)) (kk : gG ρ cs G X (pc + 1) L (.int 5 :: st) w) : gG ρ cs G X pc L (.ref (ρ 202) :: st) w := by
  obtain ⟨p, l, e, R, s, m, args, below, meth, c, n, kc, ks, Q⟩ := X
  obtain ⟨hll, hx, hb, hml, hown, hts, hK, hin, hR, hO⟩ := h
  intro H locs ls hP hS hl
  obtain ⟨cell, t1, t2, t3, t4, t5, t6, t7⟩ := hO.2.2.2.2.1
  exact W.alen (n := 5) hx hb (by rw [hS.2.1 _ (Array.getElem?_eq_some_iff.mp t1).1 t7]; exact t1) t2 t5 rfl rfl hd (kk H locs ls hP hS hl)
/-- which text a class's entry is -/
def strE (own : String) (idx i : Nat) : Prop := (own = "SowingBoards" ∧ idx = 173 ∧ i = 0) ∨ (own = "SowingBoards$Rule" ∧ idx = 51 ∧ i = 1)
theorem g_sldc (h : Okx l0 ρ cs G X cc own d) {idx i : Nat} (hi : strE own idx i) (hd : decode cc pc = .ok (.ldc idx, 2)) (kk : gG ρ cs G X (pc + 2) L (.ref (ρ (200 + i)) :: st) w) : gG ρ cs G X pc L st w := by
  obtain ⟨p, l, e, R, s, m, args, below, meth, c, n, kc, ks, Q⟩ := X
  obtain ⟨hll, hx, hb, hml, hown, hts, hK, hin, hR, hO⟩ := h
  intro H locs ls hP hS hl
  rcases hi with ⟨h1, h2, h3⟩ | ⟨h1, h2, h3⟩
  · subst h1; subst h2; subst h3
    exact va_ldcS hx hb hown hO.2.1 hd (kk H locs ls hP hS hl)
  · subst h1; subst h2; subst h3
    exact va_ldcS hx hb hown hO.2.2.1 hd (kk H locs ls hP hS hl)
/-- a text's length, its bytes -/
def slN (i : Nat) : Nat := ([6, 7] : List Nat).getD i 0
def slen (i : Nat) : Int32 := Int32.ofNat (slN i)
def sby (i j : Nat) : Int32 := ((([[115, 114, 99, 107, 120, 116], [116, 97, 112, 110, 108, 101, 111]] : List (List Int32)).getD i []).getD j 0)
theorem g_sval (h : Okx l0 ρ cs G X cc own d) {idx : Nat} (i : Nat) (hi : i < 2) (hf : Cond.fieldLink own idx "java/lang/String" "value" "[B" ∈ vtb) (hd : decode cc pc = .ok (.getfield idx, 3)) (kk : gG ρ cs G X (pc + 3) L (.ref (ρ (210 + i)) :: st) w) : gG ρ cs G X pc L (.ref (ρ (200 + i)) :: st) w := by
  obtain ⟨p, l, e, R, s, m, args, below, meth, c, n, kc, ks, Q⟩ := X
  obtain ⟨hll, hx, hb, hml, hown, hts, hK, hin, hR, hO⟩ := h
  intro H locs ls hP hS hl
  exact vk_getf hx hb (hO.1.1 i hi).2.2.1 hS hown (hts _ hf) (fun _ z => z) hd (kk H locs ls hP hS hl)
theorem g_scod (h : Okx l0 ρ cs G X cc own d) {idx : Nat} (i : Nat) (hi : i < 2) (hf : Cond.fieldLink own idx "java/lang/String" "coder" "B" ∈ vtb) (hd : decode cc pc = .ok (.getfield idx, 3)) (kk : gG ρ cs G X (pc + 3) L (.int 0 :: st) w) : gG ρ cs G X pc L (.ref (ρ (200 + i)) :: st) w := by
  obtain ⟨p, l, e, R, s, m, args, below, meth, c, n, kc, ks, Q⟩ := X
  obtain ⟨hll, hx, hb, hml, hown, hts, hK, hin, hR, hO⟩ := h
  intro H locs ls hP hS hl
  exact vk_getf hx hb (hO.1.1 i hi).2.1 hS hown (hts _ hf) (fun _ z => z) hd (kk H locs ls hP hS hl)
theorem g_scs (h : Okx l0 ρ cs G X cc own d) {idx : Nat} (hf : Cond.fieldLink own idx "java/lang/String" "COMPACT_STRINGS" "Z" ∈ vtb) (hd : decode cc pc = .ok (.getstatic idx, 3)) (kk : gG ρ cs G X (pc + 3) L (.int 1 :: st) w) : gG ρ cs G X pc L st w := by
  obtain ⟨p, l, e, R, s, m, args, below, meth, c, n, kc, ks, Q⟩ := X
  obtain ⟨hll, hx, hb, hml, hown, hts, hK, hin, hR, hO⟩ := h
  intro H locs ls hP hS hl
  exact va_gets hx hb hO.2.2.2.2.2.1 hS hown (hts _ hf) (fun _ z => z) hd (kk H locs ls hP hS hl)
theorem g_sblen (h : Okx l0 ρ cs G X cc own d) (i : Nat) (hi : i < 2) (hd : decode cc pc = .ok (.arraylength, 1)) (kk : gG ρ cs G X (pc + 1) L (.int (slen i) :: st) w) : gG ρ cs G X pc L (.ref (ρ (210 + i)) :: st) w := by
  obtain ⟨p, l, e, R, s, m, args, below, meth, c, n, kc, ks, Q⟩ := X
  obtain ⟨hll, hx, hb, hml, hown, hts, hK, hin, hR, hO⟩ := h
  intro H locs ls hP hS hl
  obtain ⟨cell, t1, t2, t3, t4, t5, t6, t7⟩ := (hO.1.1 i hi).2.2.2
  exact W.alen (n := slen i) hx hb (by rw [hS.2.1 _ (Array.getElem?_eq_some_iff.mp t1).1 t7]; exact t1) t2 t5 rfl rfl hd (kk H locs ls hP hS hl)
theorem g_sbald (h : Okx l0 ρ cs G X cc own d) {j : Int32} (i : Nat) (hi : i < 2) (hd : decode cc pc = .ok (.baload, 1)) (hD : (if ib j (slN i) then B else none) = some rr) (kk : B = some rr → gG ρ cs G X (pc + 1) L (.int (sby i j.toNatClampNeg) :: st) w) : gG ρ cs G X pc L (.int j :: .ref (ρ (210 + i)) :: st) w := by
  obtain ⟨p, l, e, R, s, m, args, below, meth, c, n, kc, ks, Q⟩ := X
  obtain ⟨hll, hx, hb, hml, hown, hts, hK, hin, hR, hO⟩ := h
  have hq := of_ite hD
  intro H locs ls hP hS hl
  obtain ⟨cell, t1, t2, t3, t4, t5, t6, t7⟩ := (hO.1.1 i hi).2.2.2
  have hlt : j.toNatClampNeg < slN i := Nat.not_le.mp fun z => ib_in hq.1 (Or.inr z)
  have t4' : slN i ≤ cell.slots.size := t4
  refine W.bald (v := .int (sby i j.toNatClampNeg)) hx hb (by rw [hS.2.1 _ (Array.getElem?_eq_some_iff.mp t1).1 t7]; exact t1) t2 t3 (fun z => ?_) (t6 _ hlt) rfl rfl hd (kk hq.2 H locs ls hP hS hl)
  rcases z with z | z
  · exact ib_in hq.1 (Or.inl z)
  · omega
theorem g_callQI (h : Okx l0 ρ cs G X cc own d) {idx n maxL d' : Nat} {y : MethodName} {bytes : ByteArray} {ty : FieldType} {stk : List Value} (i : Nat) {As : List Value} {o : Option (Int32 × Wd)} {K : Int32 → Wd → Option α}
    (hy : MY y bytes maxL (some ty) n) (hm : MI y) (hl0 : Cond.methodLink own idx y ∈ vtb) (hi : i < 2) (hyc : y.cls = "java/lang/String") (hAs : As.length = n) (hst : stk = As.reverse ++ .ref (ρ (200 + i)) :: st) (hcat : (st.map fun v => v.category).sum ≤ 8) (hdd : d' < d) (hd : decode cc pc = .ok (.invokevirtual idx, 3)) (hD : bc o K = some rr)
    (hS : ∀ r w1, o = some (r, w1) → CtI l0 ρ cs G y bytes maxL ty d' (.ref (ρ (200 + i)) :: As) w r w1)
    (kk : ∀ r w1, K r w1 = some rr → gG ρ cs G X (pc + 3) L (.int r :: st) w1) : gG ρ cs G X pc L stk w := by
  obtain ⟨r, w1, ho, hD⟩ := bc_some hD
  have hM := hS r w1 ho
  obtain ⟨p, l, e, R, s, m, args, below, meth, c, n1, kc, ks, Q⟩ := X
  obtain ⟨hll, hx, hb, hml, hown, hts, hK, hin, hR, hO⟩ := h
  subst hll
  intro H locs ls hP hS2 hl
  obtain ⟨y1, y2, y3, y4⟩ := hy
  have hroom : (rmd d').frames + 1 ≤ R.frames ∧ 8 + (maxL + 11) + (rmd d').locals ≤ R.locals := by
    obtain ⟨r1, r2, -, -⟩ := hR
    show d' + 1 + 1 ≤ R.frames ∧ 8 + (maxL + 11) + 64 * (d' + 1) ≤ R.locals
    omega
  have hcs : kc + 0 ≤ R.cells ∧ ks + 0 ≤ R.slots := ⟨hR.2.2.1, hR.2.2.2⟩
  have hrec := vk_recv hO.1 hi hS2
  rw [← hyc] at hrec
  have hp : PreV s H y.cls (ρ (200 + i)) (va_Pc (.ref (ρ (200 + i)) :: As) (Wld ρ cs G w)) As := ⟨wld_blind, hrec, fun U hU hW => ⟨rfl, by rw [hU]; exact hP, va_K.moved hW.alike hK, by rw [hU]; exact (hO.kept hS2.2.1).warm hW⟩⟩
  have hrun : va_Run p l e R s m args below meth c H locs kc ks 0 0 (F0 m pc ls stk) st (va_Qi (fun (r' : Int32) (_ : Unit) => r' = r) (fun _ t => Wld ρ cs G w1 t) (A0 ρ) (Value.ref (ρ (200 + i)) :: As).toArray) (A0 ρ) :=
    va_runV ⟨hx, hb, hml, hown, hts⟩ hM ⟨callB_of n hts (good_vtb y1) rfl rfl rfl (hts _ y2) (hts _ hl0) y3 hroom, hts _ hm.1, hts _ hm.2⟩ hp rfl hAs hl.1 hst (lv_room hcat) hd hcs
  refine va_calli hrun hS2 (fun q _ z => z) (fun q z => z) (fun r2 u t H1 locs1 ht hvm hw hB hz hk hS3 => ?_)
  have hw : r2 = r := hw
  subst hw
  exact kk r2 w1 hD H1 locs1 ls (by rw [← ht]; exact hB.1) hS3 hl
end GO
theorem i2c_rng (x : Int32) : (0 ≤ (x.toUInt32 % 65536).toInt32) ∧ (x.toUInt32 % 65536).toInt32 < 65536 := by
  rw [pk_char]
  have h : x.toBitVec.toNat % 65536 < 65536 := Nat.mod_lt _ (by omega)
  exact ⟨nI_pos' (by omega), by rw [show (65536 : Int32) = nI 65536 from by decide +kernel]; exact nI_lt h (by omega)⟩
theorem nb_0 : narrow .byte (.int 0) = .int 0 := by decide
theorem nb_1 : narrow .byte (.int 1) = .int 1 := by decide
