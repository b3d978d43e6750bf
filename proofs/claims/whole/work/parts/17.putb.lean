/-! a field that holds one of the reference's byte arrays is written -/
theorem z_codes : ∀ c, c < 13 → c ≠ 12 → ∀ q ∈ fspl.getD c [], q < 5 ∨ 10 ≤ q := by decide +kernel
theorem z_sh : ∀ i, i < 162 → i ≠ 119 → (sh i).2.1 = 12 → ((sh i).1 = 1 ∨ (sh i).1 = 5) := by decide +kernel
theorem z_one : ∀ k, k < 55 → ∀ j, j < 3 → ((fspl.getD 12 [])[k]? = some (5 + j) ↔ k = [8, 14, 15].getD j 0) := by decide +kernel
theorem obf_z {ρ : Nat → Nat} {a : Nat → Int32} {z z' : Nat → Nat} {i c : Nat} (hc : c ≠ 12) : obf ρ a z i c = obf ρ a z' i c := by
  apply List.ext_getElem?
  intro k
  cases hx : (fspl.getD c [])[k]? with
  | none => rw [List.getElem?_eq_none (by rw [obf_len]; exact List.getElem?_eq_none_iff.mp hx), List.getElem?_eq_none (by rw [obf_len]; exact List.getElem?_eq_none_iff.mp hx)]
  | some code =>
    rw [obf_get hx, obf_get hx]
    have hm := List.mem_of_getElem? hx
    have hcode : code < 5 ∨ 10 ≤ code := by
      by_cases h13 : c < 13
      · exact z_codes c h13 hc code hm
      · have : fspl.getD c [] = [] := by
          rw [List.getD_eq_getElem?_getD, List.getElem?_eq_none]
          · rfl
          · have : fspl.length = 13 := rfl
            omega
        rw [this] at hm
        cases hm
    congr 1
    unfold fv
    by_cases h0 : code = 0
    · rw [if_pos h0, if_pos h0]
    · rw [if_neg h0, if_neg h0]
      by_cases h1 : code < 10
      · rw [if_pos h1, if_pos h1]
        rcases hcode with h | h
        · have e : code - 5 = 0 := by omega
          exfalso
          have : ∀ c, c < 13 → ∀ q ∈ fspl.getD c [], q = 0 ∨ 5 ≤ q := by decide +kernel
          have h13 : c < 13 := by
            by_cases h13 : c < 13
            · exact h13
            · exfalso
              have e2 : fspl.getD c [] = [] := by
                rw [List.getD_eq_getElem?_getD, List.getElem?_eq_none]
                · rfl
                · have : fspl.length = 13 := rfl
                  omega
              rw [e2] at hm
              cases hm
          rcases this c h13 code hm with q | q <;> omega
        · omega
      · rw [if_neg h1, if_neg h1]
theorem wZ_ne {ρ : Nat → Nat} {cs : Nat → ClassId} {w : Wd} {j q i : Nat} (h : i ≠ 119) : cel ρ cs (wZ w j q) i = cel ρ cs w i := by
  have hc : ((sh i).1 = 1 ∨ (sh i).1 = 5) ∨ (sh i).2.1 ≠ 12 := by
    by_cases h2 : i < 162
    · by_cases h3 : (sh i).2.1 = 12
      · exact Or.inl (z_sh i h2 h h3)
      · exact Or.inr h3
    · right
      have : sh i = (0, 0, 0) := by
        unfold sh
        rw [if_neg (by omega), List.getD_eq_getElem?_getD, List.getElem?_eq_none]
        · rfl
        · have : shl.length = 87 := rfl
          omega
      rw [this]
      decide
  unfold cel
  show celx ρ cs (w.1 i) (w.2.1 i) _ i (sh i) = celx ρ cs (w.1 i) (w.2.1 i) _ i (sh i)
  generalize sh i = x at hc
  obtain ⟨k, c, f⟩ := x
  rcases hc with hc | hc
  · have hc : k = 1 ∨ k = 5 := hc
    rcases hc with hc | hc <;> subst hc <;> rfl
  · have hc : c ≠ 12 := hc
    have e : obf ρ (w.1 i) w.2.2 i c = obf ρ (w.1 i) (wZ w j q).2.2 i c := obf_z hc
    unfold celx
    split <;> first | rfl | (rename_i heq; cases heq; exact congrArg _ (congrArg _ e.symm)) | exact congrArg _ (congrArg _ e.symm)
theorem obf_setZ {ρ : Nat → Nat} {a : Nat → Int32} {z : Nat → Nat} {k j q : Nat} (hj : j < 3) (hq : q ≠ 0) (h : (fspl.getD 12 [])[k]? = some (5 + j)) : (obf ρ a z 119 12).set k (.ref (ρ q)) = obf ρ a (fun b => if b = j then q else z b) 119 12 := by
  have hlen : (fspl.getD 12 []).length = 55 := rfl
  have hk : k < 55 := by
    have := (List.getElem?_eq_some_iff.mp h).1
    omega
  apply List.ext_getElem?
  intro i
  rw [List.getElem?_set]
  by_cases e : k = i
  · subst e
    rw [if_pos rfl, obf_get h, if_pos (by rw [obf_len]; omega)]
    unfold fv
    rw [if_neg (by omega), if_pos (by omega), Nat.add_sub_cancel_left]
    unfold rfv
    show some (Value.ref (ρ q)) = some (if (if j = j then q else z j) = 0 then Value.null else Value.ref (ρ (if j = j then q else z j)))
    rw [if_pos rfl, if_neg hq]
  · rw [if_neg e]
    cases hx : (fspl.getD 12 [])[i]? with
    | none => rw [List.getElem?_eq_none (by rw [obf_len]; exact List.getElem?_eq_none_iff.mp hx), List.getElem?_eq_none (by rw [obf_len]; exact List.getElem?_eq_none_iff.mp hx)]
    | some code =>
      rw [obf_get hx, obf_get hx]
      have hi : i < 55 := by
        have := (List.getElem?_eq_some_iff.mp hx).1
        omega
      have hne : code ≠ 5 + j := by
        intro q
        subst q
        have h1 := (z_one i hi j hj).mp hx
        have h2 := (z_one k hk j hj).mp h
        omega
      congr 1
      unfold fv
      by_cases h0 : code = 0
      · rw [if_pos h0, if_pos h0]
      · rw [if_neg h0, if_neg h0]
        by_cases h1 : code < 10
        · rw [if_pos h1, if_pos h1]
          have : ∀ q ∈ fspl.getD 12 [], q = 0 ∨ 5 ≤ q := by decide +kernel
          have hm := this code (List.mem_of_getElem? hx)
          show rfv ρ (z (code - 5)) = rfv ρ (if code - 5 = j then q else z (code - 5))
          rw [if_neg (show ¬ code - 5 = j by omega)]
        · rw [if_neg h1, if_neg h1]
section GP
variable {l0 : Launch} {ρ : Nat → Nat} {cs : Nat → ClassId} {G : va_G} {X : Cx} {cc : ByteArray} {own : String} {d : Nat} {pc : Nat} {L L' : List (Nat × Value)} {st : List Value} {w : Wd} {α : Type} {rr : α}
theorem g_putB (h : Okx l0 ρ cs G X cc own d) {idx : Nat} {K : Wd → Option α} (j q k : Nat) (hj : j < 3) (hq : bq q = true) (hv : (fspl.getD 12 [])[k]? = some (5 + j)) (hf : FLk own idx 12 k) (hp : FPk 12 k "[B") (hd : decode cc pc = .ok (.putfield idx, 3)) (hD : bd (wZ w j q) K = some rr)
    (kk : ∀ w', K w' = some rr → gG ρ cs G X (pc + 3) L st w') : gG ρ cs G X pc L (.ref (ρ q) :: .ref (ρ 119) :: st) w := by
  obtain ⟨p, l, e, R, s, m, args, below, meth, c, n, kc, ks, Q⟩ := X
  obtain ⟨hll, hx, hb, hml, hown, hts, hK, hin, hR, hO⟩ := h
  intro H locs ls hP hS hl
  obtain ⟨q1, hc, hk, hf⟩ := hf
  obtain ⟨q', hc', hfin, hdd⟩ := hp
  cases hc.symm.trans hc'
  have hm := List.mem_of_getElem? hc
  have hin' := vcls_in q1 hm
  have hs : sh 119 = (7, 12, 0) := rfl
  have hi : 119 < vN := by decide
  have he := cells_get (ρ := ρ) (cs := cs) (w := w) hi (cel_ob hs)
  have hset : (cells ρ cs w).set 119 (ρ 119, .inr (12, (obf ρ (w.1 119) w.2.2 119 12).set k (.ref (ρ q)))) = cells ρ cs (wZ w j q) := by
    rw [obf_setZ hj (bq_ok hq).1 hv]
    exact cells_set (cel_ob hs) (fun i hi => wZ_ne hi)
  have hl' : k < (obf ρ (w.1 119) w.2.2 119 12).length := by rw [obf_len]; exact (List.getElem?_eq_some_iff.mp hv).1
  have fin : ∀ (H1 : Heap) (locs1 : List Loc), va_P G vcls ((cells ρ cs w).set 119 (ρ 119, .inr (12, (obf ρ (w.1 119) w.2.2 119 12).set k (.ref (ρ q))))) H1 → va_S (A0 ρ) s.heap H1 locs1 → W p l e R s m args below meth c H1 locs1 kc ks Q (F0 m (pc + 3) ls st) := fun H1 locs1 g1 g2 => kk _ hD H1 locs1 ls (by rw [← hset]; exact g1) g2 hl
  rcases hf with hf | ⟨host, hf⟩
  · exact va_put hx hb hts hin' (fun k => vty (q1.2.1 k).2.2.1) (vcls_ty q1 hm) (vcls_nm q1 hm) hown hK hP (cells_D hin) hS 119 he hc k hk (hts _ hf) (fun _ z => z) hfin (by rw [hdd]; exact p_B) rfl rfl hl' hd (fun H1 locs1 g1 _ g2 => fin H1 locs1 g1 g2)
  · exact va_putN hx hb hts hin' (fun k => vty (q1.2.1 k).2.2.1) (vcls_ty q1 hm) (vcls_nm q1 hm) hown hK hP (cells_D hin) hS 119 he hc k hk (va_Nw.use rfl (hO.2.2.2.2.2.2 _ hf)) (fun _ z => z) hfin (by rw [hdd]; exact p_B) rfl rfl hl' hd (fun H1 locs1 g1 _ g2 => fin H1 locs1 g1 g2)
end GP
