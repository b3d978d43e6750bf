/-! the law from its entry, for every script -/
set_option maxRecDepth 100000 in
set_option maxHeartbeats 40000000 in
/-- from the entry, for every script of at most 2560 ints, the law comes to its end with true -/
theorem whole_start {p : Program} {e : Env} {s : State} {m : MethodId} {below : List Frame} {meth : Method} {c : Code} (l : Launch) (hflags : l.flags = flags0) {b L : Nat} {xs : Nat → Int32} (hL : L ≤ 2560) (C0 : lw_At p s m meth c b L xs) : W p l e room_1 s m #[Value.ref b] below meth c s.heap [] 0 0 (lw_Z below #[Value.ref b] s) (entryFrame m ([Value.ref b] : List Value).toArray 8) := by
  obtain ⟨hx, hb, hr, hml, hown, hts, hX, hbl, hlk, hgv⟩ := C0
  have hown : s.vm.findClass "SowingBoardsLaw" = some m.cls := hown
  have hfl : l.stackTraces = false := by
    unfold Launch.stackTraces
    rw [hflags]
    decide +kernel
  obtain ⟨cs, G, hB⟩ := st_K hts
  obtain ⟨adK, adV, t, a, hO, r1, r2, r3, r4, r5⟩ := st_old hts hgv
  have hl := lv_entry (n := 8) [Value.ref b] (by decide)
  rw [lg_entry_eq]
  generalize (lg_sl [Value.ref b] ++ List.replicate (8 - (lg_sl [Value.ref b]).length) Slot.unset).toArray = ls at hl ⊢
  have h : Okn l cs G (p, l, e, room_1, s, m, #[Value.ref b], below, meth, c, 8, (fun q => s.heap.size ≤ q), lw_Z below #[Value.ref b] s) code "SowingBoardsLaw" 1000 601024 7293034 := ⟨rfl, hx, hb, hml, hown, st_tb hts, hB, fun q hq => hq, ⟨by decide, by decide, Nat.le_refl _, Nat.le_refl _⟩, Or.inl rfl⟩
  suffices hG : nG G (p, l, e, room_1, s, m, #[Value.ref b], below, meth, c, 8, (fun q => s.heap.size ≤ q), lw_Z below #[Value.ref b] s) 0 0 0 [(0, .ref b)] [] [] from hG s.heap [] ls (fun k q hk => (nomatch hk)) ⟨fun i j p q hp => (by cases hp), fun k q hk => (by cases hk)⟩ va_S.rf hl
  refine wl_board h (fun bS b1 b2 b3 b4 b5 b6 b7 b8 b9 b10 b11 b12 b13 b14 b15 b16 b17 b18 b19 b20 b21 b22 b23 b24 b25 b26 b27 b28 b29 b30 b31 b32 b33 b34 b35 b36 b37 b38 b39 b40 b41 b42 b43 b44 b45 b46 b47 b48 b49 b50 b51 b52 b53 b54 b55 b56 b57 b58 b59 b60 b61 b62 b63 b64 b65 b66 b67 b68 b69 b70 b71 b72 b73 b74 b75 b76 b77 b78 b79 b80 b81 b82 b83 b84 b85 b86 b87 b88 b89 b90 b91 b92 b93 b94 b95 b96 b97 b98 b99 b100 b101 b102 b103 b104 b105 b106 b107 b108 b109 b110 b111 b112 b113 => ?_)
  refine wl_model h (fun dM d1 d2 d3 d4 d5 d6 d7 d8 d9 d10 d11 d12 d13 d14 d15 d16 d17 d18 d19 d20 d21 d22 d23 d24 d25 d26 d27 d28 d29 o1 => ?_)
  exact law_made hL hfl hx hb hr hml hown hts hX hbl hlk hB hO r1 r2 r3 r4 r5 (mkr (b1 :: b2 :: b3 :: b4 :: b5 :: b6 :: b7 :: b8 :: b9 :: b108 :: b109 :: b110 :: b111 :: b112 :: b113 :: b14 :: b15 :: b16 :: b17 :: b18 :: b19 :: b20 :: b21 :: b22 :: b23 :: b24 :: b25 :: b26 :: b27 :: b28 :: b29 :: b30 :: b31 :: b32 :: b33 :: b34 :: b35 :: b36 :: b37 :: b38 :: b39 :: b40 :: b41 :: b42 :: b43 :: b44 :: b45 :: b46 :: b47 :: b48 :: b49 :: b56 :: b57 :: b58 :: b66 :: b67 :: b68 :: b69 :: b70 :: b71 :: b72 :: b73 :: b74 :: b75 :: b76 :: b77 :: b78 :: b79 :: b80 :: b81 :: b82 :: b83 :: b84 :: b85 :: b86 :: bS :: b10 :: b11 :: b12 :: b13 :: b50 :: b51 :: b52 :: b53 :: b54 :: b55 :: b59 :: b60 :: b61 :: b62 :: b63 :: b63 + 1 + 0 :: b63 + 1 + 1 :: b63 + 1 + 2 :: b63 + 1 + 3 :: b63 + 1 + 4 :: b64 :: b65 :: b87 :: b88 :: b89 :: b90 :: b91 :: b92 :: b93 :: b94 :: b95 :: b96 :: b97 :: b98 :: b99 :: b100 :: b101 :: b102 :: b103 :: b104 :: b105 :: b106 :: b107 :: dM :: d1 :: d2 :: d3 :: d4 :: d5 :: d6 :: d7 :: d8 :: d9 :: d10 :: d11 :: d12 :: d13 :: d13 + 1 + 0 :: d13 + 1 + 1 :: d13 + 1 + 2 :: d13 + 1 + 3 :: d13 + 1 + 4 :: d13 + 1 + 5 :: d13 + 1 + 6 :: d14 :: d15 :: d16 :: d16 + 1 + 0 :: d16 + 1 + 1 :: d16 + 1 + 2 :: d16 + 1 + 3 :: d16 + 1 + 4 :: d17 :: d18 :: d19 :: d20 :: d21 :: d22 :: d23 :: d24 :: d25 :: d26 :: d27 :: d28 :: d29 :: o1 :: []) adK adV t) rfl rfl rfl rfl rfl rfl rfl rfl rfl rfl rfl rfl rfl rfl rfl rfl rfl rfl rfl rfl rfl rfl
