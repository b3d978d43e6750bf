/-! the law from its entry, for every script -/
set_option maxRecDepth 100000 in
set_option maxHeartbeats 40000000 in
/-- from the entry, for every script of at most 2560 ints, the law comes to its end with true -/
theorem whole_start {p : Program} {e : Env} {s : State} {m : MethodId} {below : List Frame} {meth : Method} {c : Code} (l : Launch) (hflags : l.flags = flags0) {b L : Nat} {xs : Nat → Int32} (hL : L ≤ 2560) (C0 : lw_At p s m meth c b L xs) : W p l e room_1 s m #[Value.ref b] below meth c s.heap [] 0 0 (lw_Z below #[Value.ref b] s) (entryFrame m ([Value.ref b] : List Value).toArray 8) := by
  obtain ⟨hx, hb, hr, hml, hown, hts, hX, hbl, hlk, hgv⟩ := C0
  have hown : s.vm.findClass "SowingBoardsLaw" = some m.cls := hown
  have hfl : l.stackTraces = false := by
    unfold Launch.stackTraces
    rw [hflags]
    decide +kernel
  obtain ⟨cs, G, hB⟩ := st_K hts
  obtain ⟨adK, adV, t, a, hO, r1, r2, r3, r4, r5⟩ := st_old hts hgv
  have hl := lv_entry (n := 8) [Value.ref b] (Nat.le_of_ble_eq_true rfl)
  rw [lg_entry_eq]
  generalize (lg_sl [Value.ref b] ++ List.replicate (8 - (lg_sl [Value.ref b]).length) Slot.unset).toArray = ls at hl ⊢
  have h : Okn l cs G (p, l, e, room_1, s, m, #[Value.ref b], below, meth, c, 8, (fun q => s.heap.size ≤ q), lw_Z below #[Value.ref b] s) code "SowingBoardsLaw" 1000 601024 7293034 := ⟨rfl, hx, hb, hml, hown, st_tb hts, hB, fun q hq => hq, ⟨by decide, by decide, Nat.le_refl _, Nat.le_refl _⟩, Or.inl rfl⟩
  suffices hG : nG G (p, l, e, room_1, s, m, #[Value.ref b], below, meth, c, 8, (fun q => s.heap.size ≤ q), lw_Z below #[Value.ref b] s) 0 0 0 [(0, .ref b)] [] [] from hG s.heap [] ls (fun k q hk => (nomatch hk)) ⟨fun i j p q hp => (by cases hp), fun k q hk => (by cases hk)⟩ va_S.rf hl
  refine wl_board h (fun bS w1 h11 => ?_)
  refine wl_model h rfl (fun dM o1 x1 w2 h12 => ?_)
  exact law_mid hL hfl hx hb hr hml hown hts hX hbl hlk hB hO r1 r2 r3 r4 r5 h11 h12
