/-! the reference reads THE TEXT as a rule; rule() of both -/
def okc (S : List Nat) (cd : List Int32) : Prop := ∃ dg cm W O, cl S S.length = some (false, dg, 0, cm, W, O) ∧ cd = (flush 1 W O).2
theorem okc_40 {S : List Nat} {cd : List Int32} (h : okc S cd) : S.length ≤ 40 := by
  obtain ⟨_, _, _, _, h1, -⟩ := h
  exact (cl_le h1).2
theorem okc_fun {S : List Nat} {cd cd' : List Int32} (h : okc S cd) (h' : okc S cd') : cd = cd' := by
  obtain ⟨_, _, _, _, h1, h2⟩ := h
  obtain ⟨_, _, _, _, h3, h4⟩ := h'
  rw [h1] at h3
  cases h3
  rw [h2, h4]
section MR1
variable {w : Wd} {S : List Nat}
theorem RW_id (h1 : w.1 119 11 = nI 0) (h2 : w.1 119 12 = -1) : RW w 0 (-1) = w := by
  unfold RW
  rw [wI_wR, wI_wR w, wR_self, wR_wR, show upd (upd (w.1 119) 11 (nI 0)) 12 (-1) = w.1 119 from ?_, wR_id]
  funext k
  unfold upd
  by_cases e : k = 12
  · subst e; simp [h2]
  · by_cases e1 : k = 11
    · subst e1; simp [h1]
    · simp [e, e1]
theorem m_held (H : rdH w S) (hne : S ≠ []) : ∃ v j e, D_X12_held 0 (RW w 0 (-1)) = some (v, RW w j e) ∧ ∃ b e', D_X12_wasRight (RW w j e) = some (b, RW w j e') ∧ ((∃ q, b = 0 ∧ e' = nI q ∧ flS S q) ∨ (b = 1 ∧ e' = -1 ∧ e = -1 ∧ ∃ cd V, okc S cd ∧ Blk cd V ∧ v = V (fAsk w))) := by
  have hlen := H.2.2.2.2.2.2.1
  have h9 := H.2.2.2.2.1
  have hp := parse_all H 80 0 0 0 0 (fun _ => false) [] [] (by decide) (by decide) (by decide) rfl (fun _ => by intro a ha; simp at ha) (fun _ => rfl)
  rw [nI_0] at hp
  have hw : ∀ j e, (RW w j e).1 119 9 = nI S.length := fun j e => by rw [RW_f (by decide) (by decide), h9]
  rcases hp with ⟨v, j, dg, cm', g1, g2, ⟨pe, O', cs, V, q1, q2, q3, q4, q5, q6, q7⟩, g4, g5, g6, g7⟩ | ⟨v, j, q, g1, g2⟩
  · refine ⟨v, j, -1, g1, ?_⟩
    have hj := (cl_le q1).1
    have hj40 := (cl_le q1).2
    unfold D_X12_wasRight
    rw [hw, RW_11]
    by_cases hl : S.length ≤ j
    · rw [if_pos (nI_le hl (by omega)), fine_ok, bc_eq, if_pos (by decide)]
      have ej : j = S.length := by omega
      subst ej
      refine ⟨1, -1, rfl, Or.inr ⟨rfl, rfl, rfl, cs, V, ⟨dg, cm', pe ++ [], O', q1, ?_⟩, q4, q5⟩⟩
      rw [flush_app (fun a ha => by simp at ha) pe O' q2]
      exact q3.symm
    · rw [if_neg (nI_ge (by omega) (by omega)), fault_ok, bv_eq, fine_no (by omega), bc_eq, if_pos (by decide)]
      refine ⟨0, nI j, rfl, Or.inl ⟨j, rfl, rfl, _, q1, Or.inl ⟨by omega, ?_⟩⟩⟩
      by_cases e40 : j = 40
      · exact Or.inl e40
      · have hx : S[j]? = some S[j] := List.getElem?_eq_getElem (by omega)
        have hc : ch S j = S[j] := by
          unfold ch
          rw [if_pos (by omega), hx]
          rfl
        have h256 := (H.2.2.2.2.2.2.2 j _ (by omega) hx).1
        exact Or.inr ⟨_, hx, no_acc H (fun _ => rfl) q7 (g5 (by decide)) (g6 (by decide)) (g7 rfl) _ hc (by omega)⟩
  · refine ⟨v, j, nI q, g1, 0, nI q, ?_, Or.inl ⟨q, rfl, rfl, g2⟩⟩
    unfold D_X12_wasRight
    rw [hw, RW_11]
    by_cases hl : nI S.length ≤ nI j
    · rw [if_pos hl, fine_no (fl_100 g2), bc_eq, if_pos (by decide)]
    · rw [if_neg hl, fault_no (fl_100 g2), bv_eq, fine_no (fl_100 g2), bc_eq, if_pos (by decide)]
theorem sameR_RW {j : Nat} {e : Int32} : sameR [] [11, 12] [] [] w (RW w j e) := sameR_tr (sameR_f (by simp)) (sameR_f (by simp))
theorem m_readRule (ht : textM w S) (hl : S.length ≤ 80) (hS : ∀ x ∈ S, x < 256) : ∃ b w', D_X12_readRule w = some (b, w') ∧ sameR [] [4, 9, 10, 11, 12, 17] [] [0] w w' ∧ w'.1 119 4 = 0 ∧ ((∃ q, S ≠ [] ∧ flS S q ∧ b = 0 ∧ w'.1 119 12 = nI q) ∨ (b = 1 ∧ (S = [] ∨ S ≠ [] ∧ ∃ cd V, okc S cd ∧ Blk cd V))) := by
  obtain ⟨t1, t2⟩ := ht
  generalize hw0 : wI (wI (wI (wI (wI (wI (wZ w 0 121) 119 9 (nI S.length)) 119 10 40) 119 11 0) 119 12 (-1)) 119 4 0) 119 17 0 = w0
  have hs : sameR [] [4, 9, 10, 11, 12, 17] [] [0] w w0 := by
    rw [← hw0]
    exact sameR_tr (sameR_tr (sameR_tr (sameR_tr (sameR_tr (sameR_tr (sameR_z (by simp)) (sameR_f (by simp))) (sameR_f (by simp))) (sameR_f (by simp))) (sameR_f (by simp))) (sameR_f (by simp))) (sameR_f (by simp))
  have f9 : w0.1 119 9 = nI S.length := by
    rw [← hw0, wI_at_ne (by decide), wI_at_ne (by decide), wI_at_ne (by decide), wI_at_ne (by decide), wI_at_ne (by decide), wI_at]
  have f10 : w0.1 119 10 = nI 40 := by
    rw [← hw0, wI_at_ne (by decide), wI_at_ne (by decide), wI_at_ne (by decide), wI_at_ne (by decide), wI_at]
    rfl
  have f11 : w0.1 119 11 = nI 0 := by
    rw [← hw0, wI_at_ne (by decide), wI_at_ne (by decide), wI_at_ne (by decide), wI_at]
    rfl
  have f12 : w0.1 119 12 = -1 := by
    rw [← hw0, wI_at_ne (by decide), wI_at_ne (by decide), wI_at]
  have f4 : w0.1 119 4 = 0 := by
    rw [← hw0, wI_at_ne (by decide), wI_at]
  have z0 : w0.2.2 0 = 121 := by
    rw [← hw0]
    rfl
  have H : rdH w0 S := by
    unfold rdH
    rw [z0]
    refine ⟨by decide, by decide, by decide, by decide, f9, f10, hl, fun i x hi hx => ⟨hS x (List.mem_of_getElem? hx), ?_⟩⟩
    rw [hs.1 121 (by simp) (by decide)]
    exact t2 i x hx
  have hD : D_X12_readRule w = if (w0.1 119 9) ≤ 0 then (bc (D_X12_wasRight w0) fun x4 w3 => if b01 x4 then some (x4, w3) else none) else (bc (D_X12_held 0 w0) fun x6 w5 => bc (D_X12_wasRight w5) fun x8 w7 => if b01 x8 then some (x8, w7) else none) := by
    rw [← hw0]
    unfold D_X12_readRule D_X12_beginText D_X12_begin
    rw [t1]
    simp only [bd_eq, bv_eq]
    rw [if_pos (show b01 0 = true by decide)]
  have hid := RW_id f11 f12
  rw [hD, f9]
  by_cases hne : S = []
  · subst hne
    rw [if_pos (by decide), ← hid]
    unfold D_X12_wasRight
    rw [RW_f (by decide) (by decide), f9, RW_11, if_pos (by decide), fine_ok, bc_eq, if_pos (by decide), bc_eq, if_pos (by decide), hid]
    exact ⟨1, w0, rfl, hs, f4, Or.inr ⟨rfl, Or.inl rfl⟩⟩
  · have hpos : 0 < S.length := by cases S with | nil => exact absurd rfl hne | cons a b => simp
    obtain ⟨v, j, e, e1, b, e', e2, e3⟩ := m_held H hne
    rw [hid] at e1
    have hb : b01 b = true := by rcases e3 with ⟨q, h, -⟩ | ⟨h, -⟩ <;> rw [h] <;> decide
    rw [if_neg (nI_nle hpos (by omega)), e1, bc_eq, e2, bc_eq, if_pos hb]
    refine ⟨b, _, rfl, sameR_tr hs (sameR_sub sameR_RW (by simp) (by simp) (by simp) (by simp)), by rw [RW_f (by decide) (by decide), f4], ?_⟩
    rcases e3 with ⟨q, h1, h2, h3⟩ | ⟨h1, h2, h3, cd, V, h4, h5, h6⟩
    · exact Or.inl ⟨q, hne, h3, h1, by rw [RW_12, h2]⟩
    · exact Or.inr ⟨h1, Or.inr ⟨hne, cd, V, h4, h5⟩⟩
end MR1
