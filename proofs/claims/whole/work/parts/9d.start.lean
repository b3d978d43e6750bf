/-! what the start gives: classes, arrays, texts, statics -/
theorem vcls_inst : ∀ q ∈ vcls, Cond.instantiable q.1 q.2.2 ∈ vtb := List.forall_mem_cons.mpr ⟨vtb_at 216 (by decide +kernel) rfl, List.forall_mem_cons.mpr ⟨vtb_at 267 (by decide +kernel) rfl, List.forall_mem_cons.mpr ⟨vtb_at 439 (by decide +kernel) rfl, List.forall_mem_cons.mpr ⟨vtb_at 251 (by decide +kernel) rfl, List.forall_mem_cons.mpr ⟨vtb_at 315 (by decide +kernel) rfl, List.forall_mem_cons.mpr ⟨vtb_at 175 (by decide +kernel) rfl, List.forall_mem_cons.mpr ⟨vtb_at 397 (by decide +kernel) rfl, List.forall_mem_cons.mpr ⟨vtb_at 391 (by decide +kernel) rfl, List.forall_mem_cons.mpr ⟨vtb_at 377 (by decide +kernel) rfl, List.forall_mem_cons.mpr ⟨vtb_at 236 (by decide +kernel) rfl, List.forall_mem_cons.mpr ⟨vtb_at 336 (by decide +kernel) rfl, List.forall_mem_cons.mpr ⟨vtb_at 167 (by decide +kernel) rfl, List.forall_mem_cons.mpr ⟨vtb_at 1332 (by decide +kernel) rfl, fun _ h => nomatch h⟩⟩⟩⟩⟩⟩⟩⟩⟩⟩⟩⟩⟩
section ST
variable {s : State} {b : Nat}
theorem st_tb (hts : ∀ w ∈ lw_tbl, w.before #[Value.ref b] s = true) : ∀ w ∈ vtb, w.before #[Value.ref b] s = true := fun w hw => hts w (List.mem_filter.mp hw).1
theorem st_arr {ty : FieldType} (hno : ∀ C, ty ≠ .object C) (h : (Cond.arrayClass ty).before #[Value.ref b] s = true) : ∃ c, ArrOfT s c ty ∧ va_RA s c ty := by
  obtain ⟨c, k, comp, h1, h2, h3⟩ := Cond.arrayClass_spec h
  refine ⟨c, fun n z => ⟨fun k h => (by cases h), k, h2, comp, h3⟩, ?_⟩
  cases ty with
  | object C => exact absurd rfl (hno C)
  | _ => exact h1
theorem st_nw (hts : ∀ w ∈ lw_tbl, w.before #[Value.ref b] s = true) : ∀ w ∈ vnl, va_Nw w s := by
  intro w hw
  obtain ⟨h1, h2⟩ := List.mem_filter.mp hw
  refine va_Nw.of ?_ (hts w h1)
  cases w <;> first | rfl | cases h2
theorem st_K (hts : ∀ w ∈ lw_tbl, w.before #[Value.ref b] s = true) : ∃ cs G, Bld cs G s := by
  have ht := st_tb hts
  have hk : ∀ c : Nat, ∃ x : ClassId × (Nat → Nat), ∀ q : vw_C, vcls[c]? = some q → u_Kn s q.1 q.2.1 q.2.2 x.1 x.2 := by
    intro c
    cases hc : vcls[c]? with
    | none => exact ⟨(0, fun _ => 0), fun q h => nomatch h⟩
    | some q =>
      have hm := List.mem_of_getElem? hc
      obtain ⟨cC, iS, h⟩ := u_known ht (vcls_in q hm) (ht _ (vcls_inst q hm))
      exact ⟨(cC, iS), fun q' h' => by cases h'; exact h⟩
  obtain ⟨D, hD⟩ := Classical.axiomOfChoice hk
  obtain ⟨c0, a0, b0⟩ := st_arr (ty := .int) (fun C h => by cases h) (hts _ (List.mem_of_getElem? (i := 213) (by decide +kernel)))
  obtain ⟨c1, a1, b1⟩ := st_arr (ty := .byte) (fun C h => by cases h) (hts _ (List.mem_of_getElem? (i := 685) (by decide +kernel)))
  obtain ⟨c2, a2, b2⟩ := st_arr (ty := .boolean) (fun C h => by cases h) (hts _ (List.mem_of_getElem? (i := 234) (by decide +kernel)))
  obtain ⟨c3, a3, b3⟩ := st_arr (ty := .long) (fun C h => by cases h) (hts _ (List.mem_of_getElem? (i := 265) (by decide +kernel)))
  have hP : va_AO "SowingBoards$Position" s := hts (Cond.arrayOver (.object "SowingBoards$Position")) (List.mem_of_getElem? (i := 214) (by decide +kernel))
  have hI : (Cond.arrayOver (.array .int)).before #[] s = true := hts (Cond.arrayOver (.array .int)) (List.mem_of_getElem? (i := 343) (by decide +kernel))
  obtain ⟨p4, c4, k4, f1, f2, f3, f4, f5⟩ := Cond.arrayOver_spec hP
  obtain ⟨p5, c5, k5, g1, g2, g3, g4⟩ := mg_over hI
  refine ⟨fun i => [c0, c1, c2, c3, c4, c5].getD i 0, (fun c => (D c).1, fun c => (D c).2), ⟨fun c q h => hD c q h, fun k q hk => ?_⟩, st_nw hts, hP, hI⟩
  have hl : k < 6 := (List.getElem?_eq_some_iff.mp hk).1
  match k, hl with
  | 0, _ => cases hk; exact ⟨a0, b0⟩
  | 1, _ => cases hk; exact ⟨a1, b1⟩
  | 2, _ => cases hk; exact ⟨a2, b2⟩
  | 3, _ => cases hk; exact ⟨a3, b3⟩
  | 4, _ => cases hk; exact ⟨fun n z => ⟨fun k h => (by cases h), k4, f3, p4, f4⟩, k4, p4, f3, f4, f1, f5⟩
  | 5, _ =>
    cases hk
    have e2 : "[" ++ (FieldType.array .int).toString = "[[I" := by decide +kernel
    exact ⟨fun n z => ⟨fun k h => (by cases h), k5, g2, p5, g3⟩, show s.vm.findClass ("[" ++ (FieldType.array .int).toString) = some c5 by rw [e2]; exact g4⟩
def st_tm (i : Nat) : Term := if i = 0 then .string "SowingBoards" 173 else .string "SowingBoards$Rule" 51
theorem st_str {own tx : String} {k : Nat} (h1 : (Cond.stringRef own k tx).before #[Value.ref b] s = true) (h2 : (Cond.exactly (.string own k) "java/lang/String").before #[Value.ref b] s = true) : ∃ a, vk_R own k tx a s := by
  obtain ⟨a, c, cell, kk, h, -⟩ := Cond.exactly_spec h2
  exact ⟨a, vk_R.of (A := #[Value.ref b]) h1 h⟩
theorem st_texts (hs : ∀ c ∈ flatC (Jvm.Cond.and given_1 narrow_1), c.before #[Value.ref b] s = true) : ∃ adK adV : Nat → Nat, vk_S 2 [6, 7] [[115, 114, 99, 107, 120, 116], [116, 97, 112, 110, 108, 101, 111]] adK adV (fun q => s.heap.size ≤ q) s s.heap ∧ ∀ i : Nat, i < 2 → (st_tm i).eval #[Value.ref b] s none [] s = some (.ref (adK i)) := by
  refine vk_Sof (tm := st_tm) (fun i hi => ?_) (fun i hi => ?_) (fun i hi => ?_) (fun i hi => ?_) (fun i hi => ?_) (fun i hi j hj => ?_) (fun i j hi hj hij => ?_) (fun a ha => Nat.not_le.mpr ha)
  · match i, hi with
    | 0, _ => decide
    | 1, _ => decide
  · match i, hi with
    | 0, _ => exact hs _ (by decide +kernel)
    | 1, _ => exact hs _ (by decide +kernel)
  · match i, hi with
    | 0, _ => exact hs _ (by decide +kernel)
    | 1, _ => exact hs _ (by decide +kernel)
  · match i, hi with
    | 0, _ => exact hs _ (by decide +kernel)
    | 1, _ => exact hs _ (by decide +kernel)
  · match i, hi with
    | 0, _ => exact hs _ (by decide +kernel)
    | 1, _ => exact hs _ (by decide +kernel)
  · match i, hi with
    | 0, _ =>
      match j, hj with
      | 0, _ => exact hs _ (by decide +kernel)
      | 1, _ => exact hs _ (by decide +kernel)
      | 2, _ => exact hs _ (by decide +kernel)
      | 3, _ => exact hs _ (by decide +kernel)
      | 4, _ => exact hs _ (by decide +kernel)
      | 5, _ => exact hs _ (by decide +kernel)
    | 1, _ =>
      match j, hj with
      | 0, _ => exact hs _ (by decide +kernel)
      | 1, _ => exact hs _ (by decide +kernel)
      | 2, _ => exact hs _ (by decide +kernel)
      | 3, _ => exact hs _ (by decide +kernel)
      | 4, _ => exact hs _ (by decide +kernel)
      | 5, _ => exact hs _ (by decide +kernel)
      | 6, _ => exact hs _ (by decide +kernel)
  · match i, j, hi, hj with
    | 0, 1, _, _ => exact Or.inl (hs _ (by decide +kernel))
    | 1, 0, _, _ => exact Or.inr (hs _ (by decide +kernel))
    | 0, 0, _, _ => exact absurd rfl hij
    | 1, 1, _, _ => exact absurd rfl hij
theorem st_eqv {t : Term} {v : Int32} (h : (Cond.eq t (.int v)).before #[Value.ref b] s = true) : t.eval #[Value.ref b] s none [] s = some (.int v) := by
  simp only [Cond.before, Cond.holds, Cond.value, beq_iff_eq] at h
  have h2 : (Term.int v).eval #[Value.ref b] s none [] s = some (.int v) := rfl
  cases ht : t.eval #[Value.ref b] s none [] s with
  | none => rw [ht] at h; simp at h
  | some x =>
    rw [ht, h2] at h
    cases x with
    | int y =>
      have h3 : y = v := by simpa using h
      rw [h3]
    | _ => simp at h
/-- the facts of the old cells, over every set of new ones -/
def OldA (adK adV : Nat → Nat) (t : Nat) (A : Nat → Prop) (U : State) (H : Heap) : Prop :=
  vk_S 2 [6, 7] [[115, 114, 99, 107, 120, 116], [116, 97, 112, 110, 108, 101, 111]] adK adV A U H ∧ va_Z "SowingBoards" "MOST_TOLD" "[I" (.ref t) A U H ∧ va_T .int t 5 (fun j => .int (([1, 9, 9, 5, 1] : List Int32).getD j 0)) A U H ∧ va_Z "java/lang/String" "COMPACT_STRINGS" "Z" (.int 1) A U H ∧ vx_Zq Bundle.tN "UNASSIGNED_STACK" Bundle.steD A U H ∧ vx_Zq Bundle.tN "SUPPRESSED_SENTINEL" Bundle.listD A U H
theorem OldA.narrow {adK adV : Nat → Nat} {t : Nat} {A B : Nat → Prop} {U : State} {H : Heap} (h : OldA adK adV t A U H) (hAB : ∀ q, B q → A q) : OldA adK adV t B U H := ⟨h.1.narrow hAB, h.2.1.narrow hAB, h.2.2.1.narrow hAB, h.2.2.2.1.narrow hAB, h.2.2.2.2.1.narrow hAB, h.2.2.2.2.2.narrow hAB⟩
theorem st_xn (hts : ∀ w ∈ lw_tbl, w.before #[Value.ref b] s = true) : ∀ w ∈ xN, va_Nw w s := by
  intro w hw
  refine va_Nw.of (xN_ot w hw) (hts w ?_)
  rw [xN_at] at hw
  obtain ⟨i, -, hi⟩ := List.mem_filterMap.mp hw
  exact List.mem_of_getElem? hi
set_option maxRecDepth 20000 in
theorem st_old (hts : ∀ w ∈ lw_tbl, w.before #[Value.ref b] s = true) (hgv : (Jvm.Cond.and given_1 narrow_1).before #[Value.ref b] s = true) : ∃ (adK adV : Nat → Nat) (t : Nat) (a : Nat → Nat), OldA adK adV t (fun q => s.heap.size ≤ q) s s.heap ∧ vk_R "SowingBoards" 173 "srckxt" (adK 0) s ∧ vk_R "SowingBoards$Rule" 51 "tapnleo" (adK 1) s ∧ vk_R "SowingBoards" 199 "no such pit" (a 0) s ∧ vk_R "SowingBoards" 204 "no such side" (a 1) s ∧ vk_R "SowingBoards" 451 "no such number" (a 2) s := by
  have hs := flat_of_before _ hgv
  have hA : ∀ x : Nat, x < s.heap.size → ¬ (fun q => s.heap.size ≤ q) x := fun x hx => Nat.not_le.mpr hx
  obtain ⟨adK, adV, h1, h2⟩ := st_texts hs
  obtain ⟨a0, h3⟩ := st_str (hts (Cond.stringRef "SowingBoards" 199 "no such pit") (List.mem_of_getElem? (i := 1289) (by decide +kernel))) (hs _ (by decide +kernel))
  obtain ⟨a1, h4⟩ := st_str (hts (Cond.stringRef "SowingBoards" 204 "no such side") (List.mem_of_getElem? (i := 1322) (by decide +kernel))) (hs _ (by decide +kernel))
  obtain ⟨a2, h5⟩ := st_str (hts (Cond.stringRef "SowingBoards" 451 "no such number") (List.mem_of_getElem? (i := 1330) (by decide +kernel))) (hs _ (by decide +kernel))
  obtain ⟨t, h6, h7⟩ := va_Tof (tm := .static "SowingBoards" "MOST_TOLD" "[I") (ty := .int) (N := 5) (f := fun j => .int (([1, 9, 9, 5, 1] : List Int32).getD j 0)) (by decide) (hs _ (by decide +kernel)) (st_eqv (hs _ (by decide +kernel))) (fun j hj => by
    match j, hj with
    | 0, _ => exact st_eqv (hs _ (by decide +kernel))
    | 1, _ => exact st_eqv (hs _ (by decide +kernel))
    | 2, _ => exact st_eqv (hs _ (by decide +kernel))
    | 3, _ => exact st_eqv (hs _ (by decide +kernel))
    | 4, _ => exact st_eqv (hs _ (by decide +kernel))) hA
  have h8 := va_Zof (hts (Cond.laysStatic "SowingBoards" "MOST_TOLD" "[I") (List.mem_of_getElem? (i := 1119) (by decide +kernel))) (hts (Cond.initialized "SowingBoards") (List.mem_of_getElem? (i := 139) (by decide +kernel))) h6 hA
  have h9 := va_Zof (hts (Cond.laysStatic "java/lang/String" "COMPACT_STRINGS" "Z") (List.mem_of_getElem? (i := 608) (by decide +kernel))) (hts (Cond.initialized "java/lang/String") (List.mem_of_getElem? (i := 153) (by decide +kernel))) (st_eqv (v := 1) (hs _ (by decide +kernel))) hA
  have h10 := vx_Zqof (hts (Cond.laysStatic Bundle.tN "UNASSIGNED_STACK" Bundle.steD) (List.mem_of_getElem? (i := 1277) (by decide +kernel))) (hts (Cond.initialized Bundle.tN) (List.mem_of_getElem? (i := 161) (by decide +kernel))) (hs _ (by decide +kernel)) hA
  have h11 := vx_Zqof (hts (Cond.laysStatic Bundle.tN "SUPPRESSED_SENTINEL" Bundle.listD) (List.mem_of_getElem? (i := 1279) (by decide +kernel))) (hts (Cond.initialized Bundle.tN) (List.mem_of_getElem? (i := 161) (by decide +kernel))) (hs _ (by decide +kernel)) hA
  exact ⟨adK, adV, t, fun i => [a0, a1, a2].getD i 0, ⟨h1, h8, h7, h9, h10, h11⟩, vk_R.of (A := #[Value.ref b]) (hts (Cond.stringRef "SowingBoards" 173 "srckxt") (List.mem_of_getElem? (i := 593) (by decide +kernel))) (h2 0 (by decide)), vk_R.of (A := #[Value.ref b]) (hts (Cond.stringRef "SowingBoards$Rule" 51 "tapnleo") (List.mem_of_getElem? (i := 719) (by decide +kernel))) (h2 1 (by decide)), h3, h4, h5⟩
end ST
