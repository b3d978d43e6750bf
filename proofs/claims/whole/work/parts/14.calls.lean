/-! calls of methods with a contract; a method's beginning and end -/
def MY (y : MethodName) (cc : ByteArray) (maxL : Nat) (ret : Option FieldType) (n : Nat) : Prop := Cond.code y cc maxL ret ∈ vtb ∧ Cond.initialized y.cls ∈ vtb ∧ (y.cls ≠ "java/lang/invoke/MethodHandle" ∧ y.cls ≠ "java/lang/invoke/VarHandle" ∧ (parseMethodDescriptor y.desc).map (fun d => d.parameters.length) = some n) ∧ maxL ≤ 45
def MI (y : MethodName) : Prop := Cond.instanceMethod y ∈ vtb ∧ Cond.selects y.cls y y ∈ vtb
def ML (own : String) (idx : Nat) (y : MethodName) : Prop := Cond.methodLink own idx y ∈ vtb ∨ ∃ host, Cond.methodLinkNest own idx y host ∈ vnl
theorem good_vtb {y : MethodName} {cc : ByteArray} {maxL : Nat} {ret : Option FieldType} (h : Cond.code y cc maxL ret ∈ vtb) : GoodIn vtb (wsO y cc maxL ret) := by
  intro w hw
  have hm : w ∈ vtb := by
    rcases List.mem_cons.mp hw with e | e
    · rw [e]; exact h
    · exact e
  exact ⟨hm, good_of_word (List.mem_filter.mp hm).2⟩
theorem wld_blind {ρ : Nat → Nat} {cs : Nat → ClassId} {G : va_G} {w : Wd} {av : List Value} : FrameBlind (va_Pc av (Wld ρ cs G w)) := fun a U g mk q => ⟨q.1, q.2.1, va_K.moved (u := U) (U := U.calling g mk a) (Vm.Alike.refl U.vm) q.2.2.1, Old.same (u := U) (U := U.calling g mk a) rfl (Vm.Alike.refl U.vm) q.2.2.2⟩
theorem bc_some {α β γ : Type} {o : Option (α × β)} {K : α → β → Option γ} {rr : γ} (h : bc o K = some rr) : ∃ a b, o = some (a, b) ∧ K a b = some rr := by
  cases o with
  | none => cases h
  | some q => exact ⟨q.1, q.2, rfl, h⟩
theorem bv_some {α γ : Type} {o : Option α} {K : α → Option γ} {rr : γ} (h : bv o K = some rr) : ∃ a, o = some a ∧ K a = some rr := by
  cases o with
  | none => cases h
  | some q => exact ⟨q, rfl, h⟩
section GC
variable {l0 : Launch} {ρ : Nat → Nat} {cs : Nat → ClassId} {G : va_G} {X : Cx} {cc : ByteArray} {own : String} {d : Nat} {pc : Nat} {L L' : List (Nat × Value)} {st stk : List Value} {w : Wd} {α : Type} {rr : α}
theorem g_callVI (h : Okx l0 ρ cs G X cc own d) {idx n maxL d' : Nat} {y : MethodName} {bytes : ByteArray} {ty : FieldType} {c' f : Nat} (i : Nat) {As : List Value} {o : Option (Int32 × Wd)} {K : Int32 → Wd → Option α}
    (hy : MY y bytes maxL (some ty) n) (hm : MI y) (hl0 : ML own idx y) (hs : sh i = (7, c', f)) (hiN : i < vN) (hcl : (vcls[c']?).map (fun q => q.1) = some y.cls) (hAs : As.length = n) (hst : stk = As.reverse ++ .ref (ρ i) :: st) (hcat : (st.map fun v => v.category).sum ≤ 8) (hdd : d' < d) (hd : decode cc pc = .ok (.invokevirtual idx, 3)) (hD : bc o K = some rr)
    (hS : ∀ r w1, o = some (r, w1) → CtI l0 ρ cs G y bytes maxL ty d' (.ref (ρ i) :: As) w r w1)
    (kk : ∀ r w1, K r w1 = some rr → gG ρ cs G X (pc + 3) L (.int r :: st) w1) : gG ρ cs G X pc L stk w := by
  obtain ⟨r, w1, ho, hD⟩ := bc_some hD
  have hM := hS r w1 ho
  obtain ⟨p, l, e, R, s, m, args, below, meth, c, n1, kc, ks, Q⟩ := X
  obtain ⟨hll, hx, hb, hml, hown, hts, hK, hin, hR, hO⟩ := h
  subst hll
  intro H locs ls hP hS2 hl
  obtain ⟨y1, y2, y3, y4⟩ := hy
  have hroom : (rmd d').frames + 1 ≤ R.frames ∧ 8 + (maxL + 11) + (rmd d').locals ≤ R.locals := by
    obtain ⟨r1, r2, -, -⟩ := hR
    show d' + 1 + 1 ≤ R.frames ∧ 8 + (maxL + 11) + 64 * (d' + 1) ≤ R.locals
    omega
  have hcs : kc + 0 ≤ R.cells ∧ ks + 0 ≤ R.slots := ⟨hR.2.2.1, hR.2.2.2⟩
  obtain ⟨q, hc, hq⟩ : ∃ q, vcls[c']? = some q ∧ q.1 = y.cls := by
    cases hz : vcls[c']? with
    | none => rw [hz] at hcl; cases hcl
    | some q => rw [hz] at hcl; exact ⟨q, rfl, Option.some.inj hcl⟩
  have hrec := va_recv hK hP hc (cells_get (ρ := ρ) (cs := cs) (w := w) hiN (cel_ob hs))
  rw [hq] at hrec
  have hp : PreV s H y.cls (ρ i) (va_Pc (.ref (ρ i) :: As) (Wld ρ cs G w)) As := ⟨wld_blind, hrec, fun U hU hW => ⟨rfl, by rw [hU]; exact hP, va_K.moved hW.alike hK, by rw [hU]; exact (hO.kept hS2.2.1).warm hW⟩⟩
  have hrun : va_Run p l e R s m args below meth c H locs kc ks 0 0 (F0 m pc ls stk) st (va_Qi (fun (r' : Int32) (_ : Unit) => r' = r) (fun _ t => Wld ρ cs G w1 t) (A0 ρ) (Value.ref (ρ i) :: As).toArray) (A0 ρ) := by
    rcases hl0 with hl0 | ⟨host, hl0⟩
    · exact va_runV ⟨hx, hb, hml, hown, hts⟩ hM ⟨callB_of n hts (good_vtb y1) rfl rfl rfl (hts _ y2) (hts _ hl0) y3 hroom, hts _ hm.1, hts _ hm.2⟩ hp rfl hAs hl.1 hst (lv_room hcat) hd hcs
    · exact va_runVN ⟨hx, hb, hml, hown, hts⟩ hM ⟨va_cnB n hts (good_vtb y1) rfl rfl rfl (hO.2.2.2.2.2.2 _ hl0) (hts _ y2) y3 hroom, hts _ hm.1, hts _ hm.2⟩ hp rfl hAs hl.1 hst (lv_room hcat) hd hcs
  refine va_calli hrun hS2 (fun q _ z => z) (fun q z => z) (fun r2 u t H1 locs1 ht hvm hw hB hz hk hS3 => ?_)
  have hw : r2 = r := hw
  subst hw
  exact kk r2 w1 hD H1 locs1 ls (by rw [← ht]; exact hB.1) hS3 hl
theorem g_callSI (h : Okx l0 ρ cs G X cc own d) {idx n maxL d' : Nat} {y : MethodName} {bytes : ByteArray} {ty : FieldType} {As : List Value} {o : Option (Int32 × Wd)} {K : Int32 → Wd → Option α}
    (hy : MY y bytes maxL (some ty) n) (hm : Cond.static y ∈ vtb) (hl0 : ML own idx y) (hAs : As.length = n) (hst : stk = As.reverse ++ st) (hcat : (st.map fun v => v.category).sum ≤ 8) (hdd : d' < d) (hd : decode cc pc = .ok (.invokestatic idx, 3)) (hD : bc o K = some rr)
    (hS : ∀ r w1, o = some (r, w1) → CtI l0 ρ cs G y bytes maxL ty d' As w r w1)
    (kk : ∀ r w1, K r w1 = some rr → gG ρ cs G X (pc + 3) L (.int r :: st) w1) : gG ρ cs G X pc L stk w := by
  obtain ⟨r, w1, ho, hD⟩ := bc_some hD
  have hM := hS r w1 ho
  obtain ⟨p, l, e, R, s, m, args, below, meth, c, n1, kc, ks, Q⟩ := X
  obtain ⟨hll, hx, hb, hml, hown, hts, hK, hin, hR, hO⟩ := h
  subst hll
  intro H locs ls hP hS2 hl
  obtain ⟨y1, y2, y3, y4⟩ := hy
  have hroom : (rmd d').frames + 1 ≤ R.frames ∧ 8 + (maxL + 11) + (rmd d').locals ≤ R.locals := by
    obtain ⟨r1, r2, -, -⟩ := hR
    show d' + 1 + 1 ≤ R.frames ∧ 8 + (maxL + 11) + 64 * (d' + 1) ≤ R.locals
    omega
  have hcs : kc + 0 ≤ R.cells ∧ ks + 0 ≤ R.slots := ⟨hR.2.2.1, hR.2.2.2⟩
  have hp : PreS s H (va_Pc As (Wld ρ cs G w)) As := ⟨wld_blind, fun U hU hW => ⟨rfl, by rw [hU]; exact hP, va_K.moved hW.alike hK, by rw [hU]; exact (hO.kept hS2.2.1).warm hW⟩⟩
  have hrun : va_Run p l e R s m args below meth c H locs kc ks 0 0 (F0 m pc ls stk) st (va_Qi (fun (r' : Int32) (_ : Unit) => r' = r) (fun _ t => Wld ρ cs G w1 t) (A0 ρ) As.toArray) (A0 ρ) := by
    rcases hl0 with hl0 | ⟨host, hl0⟩
    · exact va_runS ⟨hx, hb, hml, hown, hts⟩ hM ⟨callB_of n hts (good_vtb y1) rfl rfl rfl (hts _ y2) (hts _ hl0) y3 hroom, hts _ hm⟩ hp rfl hAs hl.1 hst (lv_room hcat) hd hcs
    · exact va_runSN ⟨hx, hb, hml, hown, hts⟩ hM ⟨va_cnB n hts (good_vtb y1) rfl rfl rfl (hO.2.2.2.2.2.2 _ hl0) (hts _ y2) y3 hroom, hts _ hm, trivial⟩ hp rfl hAs hl.1 hst (lv_room hcat) hd hcs
  refine va_calli hrun hS2 (fun q _ z => z) (fun q z => z) (fun r2 u t H1 locs1 ht hvm hw hB hz hk hS3 => ?_)
  have hw : r2 = r := hw
  subst hw
  exact kk r2 w1 hD H1 locs1 ls (by rw [← ht]; exact hB.1) hS3 hl
theorem g_callVJ (h : Okx l0 ρ cs G X cc own d) {idx n maxL d' : Nat} {y : MethodName} {bytes : ByteArray} {c' f : Nat} (i : Nat) {As : List Value} {o : Option (Int64 × Wd)} {K : Int64 → Wd → Option α}
    (hy : MY y bytes maxL (some .long) n) (hm : MI y) (hl0 : ML own idx y) (hs : sh i = (7, c', f)) (hiN : i < vN) (hcl : (vcls[c']?).map (fun q => q.1) = some y.cls) (hAs : As.length = n) (hst : stk = As.reverse ++ .ref (ρ i) :: st) (hcat : (st.map fun v => v.category).sum ≤ 8) (hdd : d' < d) (hd : decode cc pc = .ok (.invokevirtual idx, 3)) (hD : bc o K = some rr)
    (hS : ∀ r w1, o = some (r, w1) → CtJ l0 ρ cs G y bytes maxL d' (.ref (ρ i) :: As) w r w1)
    (kk : ∀ r w1, K r w1 = some rr → gG ρ cs G X (pc + 3) L (.long r :: st) w1) : gG ρ cs G X pc L stk w := by
  obtain ⟨r, w1, ho, hD⟩ := bc_some hD
  have hM := hS r w1 ho
  obtain ⟨p, l, e, R, s, m, args, below, meth, c, n1, kc, ks, Q⟩ := X
  obtain ⟨hll, hx, hb, hml, hown, hts, hK, hin, hR, hO⟩ := h
  subst hll
  intro H locs ls hP hS2 hl
  obtain ⟨y1, y2, y3, y4⟩ := hy
  have hroom : (rmd d').frames + 1 ≤ R.frames ∧ 8 + (maxL + 11) + (rmd d').locals ≤ R.locals := by
    obtain ⟨r1, r2, -, -⟩ := hR
    show d' + 1 + 1 ≤ R.frames ∧ 8 + (maxL + 11) + 64 * (d' + 1) ≤ R.locals
    omega
  have hcs : kc + 0 ≤ R.cells ∧ ks + 0 ≤ R.slots := ⟨hR.2.2.1, hR.2.2.2⟩
  obtain ⟨q, hc, hq⟩ : ∃ q, vcls[c']? = some q ∧ q.1 = y.cls := by
    cases hz : vcls[c']? with
    | none => rw [hz] at hcl; cases hcl
    | some q => rw [hz] at hcl; exact ⟨q, rfl, Option.some.inj hcl⟩
  have hrec := va_recv hK hP hc (cells_get (ρ := ρ) (cs := cs) (w := w) hiN (cel_ob hs))
  rw [hq] at hrec
  have hp : PreV s H y.cls (ρ i) (va_Pc (.ref (ρ i) :: As) (Wld ρ cs G w)) As := ⟨wld_blind, hrec, fun U hU hW => ⟨rfl, by rw [hU]; exact hP, va_K.moved hW.alike hK, by rw [hU]; exact (hO.kept hS2.2.1).warm hW⟩⟩
  have hrun : va_Run p l e R s m args below meth c H locs kc ks 0 0 (F0 m pc ls stk) st (va_Ql (fun (r' : Int64) (_ : Unit) => r' = r) (fun _ t => Wld ρ cs G w1 t) (A0 ρ) (Value.ref (ρ i) :: As).toArray) (A0 ρ) := by
    rcases hl0 with hl0 | ⟨host, hl0⟩
    · exact va_runV ⟨hx, hb, hml, hown, hts⟩ hM ⟨callB_of n hts (good_vtb y1) rfl rfl rfl (hts _ y2) (hts _ hl0) y3 hroom, hts _ hm.1, hts _ hm.2⟩ hp rfl hAs hl.1 hst (lv_room hcat) hd hcs
    · exact va_runVN ⟨hx, hb, hml, hown, hts⟩ hM ⟨va_cnB n hts (good_vtb y1) rfl rfl rfl (hO.2.2.2.2.2.2 _ hl0) (hts _ y2) y3 hroom, hts _ hm.1, hts _ hm.2⟩ hp rfl hAs hl.1 hst (lv_room hcat) hd hcs
  refine va_calll hrun hS2 (fun q _ z => z) (fun q z => z) (fun r2 u t H1 locs1 ht hvm hw hB hz hk hS3 => ?_)
  have hw : r2 = r := hw
  subst hw
  exact kk r2 w1 hD H1 locs1 ls (by rw [← ht]; exact hB.1) hS3 hl
theorem g_callSJ (h : Okx l0 ρ cs G X cc own d) {idx n maxL d' : Nat} {y : MethodName} {bytes : ByteArray} {As : List Value} {o : Option (Int64 × Wd)} {K : Int64 → Wd → Option α}
    (hy : MY y bytes maxL (some .long) n) (hm : Cond.static y ∈ vtb) (hl0 : ML own idx y) (hAs : As.length = n) (hst : stk = As.reverse ++ st) (hcat : (st.map fun v => v.category).sum ≤ 8) (hdd : d' < d) (hd : decode cc pc = .ok (.invokestatic idx, 3)) (hD : bc o K = some rr)
    (hS : ∀ r w1, o = some (r, w1) → CtJ l0 ρ cs G y bytes maxL d' As w r w1)
    (kk : ∀ r w1, K r w1 = some rr → gG ρ cs G X (pc + 3) L (.long r :: st) w1) : gG ρ cs G X pc L stk w := by
  obtain ⟨r, w1, ho, hD⟩ := bc_some hD
  have hM := hS r w1 ho
  obtain ⟨p, l, e, R, s, m, args, below, meth, c, n1, kc, ks, Q⟩ := X
  obtain ⟨hll, hx, hb, hml, hown, hts, hK, hin, hR, hO⟩ := h
  subst hll
  intro H locs ls hP hS2 hl
  obtain ⟨y1, y2, y3, y4⟩ := hy
  have hroom : (rmd d').frames + 1 ≤ R.frames ∧ 8 + (maxL + 11) + (rmd d').locals ≤ R.locals := by
    obtain ⟨r1, r2, -, -⟩ := hR
    show d' + 1 + 1 ≤ R.frames ∧ 8 + (maxL + 11) + 64 * (d' + 1) ≤ R.locals
    omega
  have hcs : kc + 0 ≤ R.cells ∧ ks + 0 ≤ R.slots := ⟨hR.2.2.1, hR.2.2.2⟩
  have hp : PreS s H (va_Pc As (Wld ρ cs G w)) As := ⟨wld_blind, fun U hU hW => ⟨rfl, by rw [hU]; exact hP, va_K.moved hW.alike hK, by rw [hU]; exact (hO.kept hS2.2.1).warm hW⟩⟩
  have hrun : va_Run p l e R s m args below meth c H locs kc ks 0 0 (F0 m pc ls stk) st (va_Ql (fun (r' : Int64) (_ : Unit) => r' = r) (fun _ t => Wld ρ cs G w1 t) (A0 ρ) As.toArray) (A0 ρ) := by
    rcases hl0 with hl0 | ⟨host, hl0⟩
    · exact va_runS ⟨hx, hb, hml, hown, hts⟩ hM ⟨callB_of n hts (good_vtb y1) rfl rfl rfl (hts _ y2) (hts _ hl0) y3 hroom, hts _ hm⟩ hp rfl hAs hl.1 hst (lv_room hcat) hd hcs
    · exact va_runSN ⟨hx, hb, hml, hown, hts⟩ hM ⟨va_cnB n hts (good_vtb y1) rfl rfl rfl (hO.2.2.2.2.2.2 _ hl0) (hts _ y2) y3 hroom, hts _ hm, trivial⟩ hp rfl hAs hl.1 hst (lv_room hcat) hd hcs
  refine va_calll hrun hS2 (fun q _ z => z) (fun q z => z) (fun r2 u t H1 locs1 ht hvm hw hB hz hk hS3 => ?_)
  have hw : r2 = r := hw
  subst hw
  exact kk r2 w1 hD H1 locs1 ls (by rw [← ht]; exact hB.1) hS3 hl
theorem g_callVV (h : Okx l0 ρ cs G X cc own d) {idx n maxL d' : Nat} {y : MethodName} {bytes : ByteArray} {c' f : Nat} (i : Nat) {As : List Value} {o : Option Wd} {K : Wd → Option α}
    (hy : MY y bytes maxL none n) (hm : MI y) (hl0 : ML own idx y) (hs : sh i = (7, c', f)) (hiN : i < vN) (hcl : (vcls[c']?).map (fun q => q.1) = some y.cls) (hAs : As.length = n) (hst : stk = As.reverse ++ .ref (ρ i) :: st) (hcat : (st.map fun v => v.category).sum ≤ 8) (hdd : d' < d) (hd : decode cc pc = .ok (.invokevirtual idx, 3)) (hD : bv o K = some rr)
    (hS : ∀ w1, o = some w1 → CtV l0 ρ cs G y bytes maxL d' (.ref (ρ i) :: As) w w1)
    (kk : ∀ w1, K w1 = some rr → gG ρ cs G X (pc + 3) L st w1) : gG ρ cs G X pc L stk w := by
  obtain ⟨w1, ho, hD⟩ := bv_some hD
  have hM := hS w1 ho
  obtain ⟨p, l, e, R, s, m, args, below, meth, c, n1, kc, ks, Q⟩ := X
  obtain ⟨hll, hx, hb, hml, hown, hts, hK, hin, hR, hO⟩ := h
  subst hll
  intro H locs ls hP hS2 hl
  obtain ⟨y1, y2, y3, y4⟩ := hy
  have hroom : (rmd d').frames + 1 ≤ R.frames ∧ 8 + (maxL + 11) + (rmd d').locals ≤ R.locals := by
    obtain ⟨r1, r2, -, -⟩ := hR
    show d' + 1 + 1 ≤ R.frames ∧ 8 + (maxL + 11) + 64 * (d' + 1) ≤ R.locals
    omega
  have hcs : kc + 0 ≤ R.cells ∧ ks + 0 ≤ R.slots := ⟨hR.2.2.1, hR.2.2.2⟩
  obtain ⟨q, hc, hq⟩ : ∃ q, vcls[c']? = some q ∧ q.1 = y.cls := by
    cases hz : vcls[c']? with
    | none => rw [hz] at hcl; cases hcl
    | some q => rw [hz] at hcl; exact ⟨q, rfl, Option.some.inj hcl⟩
  have hrec := va_recv hK hP hc (cells_get (ρ := ρ) (cs := cs) (w := w) hiN (cel_ob hs))
  rw [hq] at hrec
  have hp : PreV s H y.cls (ρ i) (va_Pc (.ref (ρ i) :: As) (Wld ρ cs G w)) As := ⟨wld_blind, hrec, fun U hU hW => ⟨rfl, by rw [hU]; exact hP, va_K.moved hW.alike hK, by rw [hU]; exact (hO.kept hS2.2.1).warm hW⟩⟩
  have hrun : va_Run p l e R s m args below meth c H locs kc ks 0 0 (F0 m pc ls stk) st (va_Qv (fun _ : Unit => True) (fun _ t => Wld ρ cs G w1 t) (A0 ρ) (Value.ref (ρ i) :: As).toArray) (A0 ρ) := by
    rcases hl0 with hl0 | ⟨host, hl0⟩
    · exact va_runV ⟨hx, hb, hml, hown, hts⟩ hM ⟨callB_of n hts (good_vtb y1) rfl rfl rfl (hts _ y2) (hts _ hl0) y3 hroom, hts _ hm.1, hts _ hm.2⟩ hp rfl hAs hl.1 hst (lv_room hcat) hd hcs
    · exact va_runVN ⟨hx, hb, hml, hown, hts⟩ hM ⟨va_cnB n hts (good_vtb y1) rfl rfl rfl (hO.2.2.2.2.2.2 _ hl0) (hts _ y2) y3 hroom, hts _ hm.1, hts _ hm.2⟩ hp rfl hAs hl.1 hst (lv_room hcat) hd hcs
  refine va_callv hrun hS2 (fun q _ z => z) (fun q z => z) (fun u t H1 locs1 ht hvm hw hB hz hk hS3 => ?_)
  exact kk w1 hD H1 locs1 ls (by rw [← ht]; exact hB.1) hS3 hl
theorem g_callSV (h : Okx l0 ρ cs G X cc own d) {idx n maxL d' : Nat} {y : MethodName} {bytes : ByteArray} {As : List Value} {o : Option Wd} {K : Wd → Option α}
    (hy : MY y bytes maxL none n) (hm : Cond.static y ∈ vtb) (hl0 : ML own idx y) (hAs : As.length = n) (hst : stk = As.reverse ++ st) (hcat : (st.map fun v => v.category).sum ≤ 8) (hdd : d' < d) (hd : decode cc pc = .ok (.invokestatic idx, 3)) (hD : bv o K = some rr)
    (hS : ∀ w1, o = some w1 → CtV l0 ρ cs G y bytes maxL d' As w w1)
    (kk : ∀ w1, K w1 = some rr → gG ρ cs G X (pc + 3) L st w1) : gG ρ cs G X pc L stk w := by
  obtain ⟨w1, ho, hD⟩ := bv_some hD
  have hM := hS w1 ho
  obtain ⟨p, l, e, R, s, m, args, below, meth, c, n1, kc, ks, Q⟩ := X
  obtain ⟨hll, hx, hb, hml, hown, hts, hK, hin, hR, hO⟩ := h
  subst hll
  intro H locs ls hP hS2 hl
  obtain ⟨y1, y2, y3, y4⟩ := hy
  have hroom : (rmd d').frames + 1 ≤ R.frames ∧ 8 + (maxL + 11) + (rmd d').locals ≤ R.locals := by
    obtain ⟨r1, r2, -, -⟩ := hR
    show d' + 1 + 1 ≤ R.frames ∧ 8 + (maxL + 11) + 64 * (d' + 1) ≤ R.locals
    omega
  have hcs : kc + 0 ≤ R.cells ∧ ks + 0 ≤ R.slots := ⟨hR.2.2.1, hR.2.2.2⟩
  have hp : PreS s H (va_Pc As (Wld ρ cs G w)) As := ⟨wld_blind, fun U hU hW => ⟨rfl, by rw [hU]; exact hP, va_K.moved hW.alike hK, by rw [hU]; exact (hO.kept hS2.2.1).warm hW⟩⟩
  have hrun : va_Run p l e R s m args below meth c H locs kc ks 0 0 (F0 m pc ls stk) st (va_Qv (fun _ : Unit => True) (fun _ t => Wld ρ cs G w1 t) (A0 ρ) As.toArray) (A0 ρ) := by
    rcases hl0 with hl0 | ⟨host, hl0⟩
    · exact va_runS ⟨hx, hb, hml, hown, hts⟩ hM ⟨callB_of n hts (good_vtb y1) rfl rfl rfl (hts _ y2) (hts _ hl0) y3 hroom, hts _ hm⟩ hp rfl hAs hl.1 hst (lv_room hcat) hd hcs
    · exact va_runSN ⟨hx, hb, hml, hown, hts⟩ hM ⟨va_cnB n hts (good_vtb y1) rfl rfl rfl (hO.2.2.2.2.2.2 _ hl0) (hts _ y2) y3 hroom, hts _ hm, trivial⟩ hp rfl hAs hl.1 hst (lv_room hcat) hd hcs
  refine va_callv hrun hS2 (fun q _ z => z) (fun q z => z) (fun u t H1 locs1 ht hvm hw hB hz hk hS3 => ?_)
  exact kk w1 hD H1 locs1 ls (by rw [← ht]; exact hB.1) hS3 hl
theorem g_callVR (h : Okx l0 ρ cs G X cc own d) {idx n maxL d' : Nat} {y : MethodName} {bytes : ByteArray} {ty : FieldType} {c' f : Nat} (i : Nat) {As : List Value} {o : Option (Nat × Wd)} {K : Nat → Wd → Option α}
    (hy : MY y bytes maxL (some ty) n) (hm : MI y) (hl0 : ML own idx y) (hs : sh i = (7, c', f)) (hiN : i < vN) (hcl : (vcls[c']?).map (fun q => q.1) = some y.cls) (hAs : As.length = n) (hst : stk = As.reverse ++ .ref (ρ i) :: st) (hcat : (st.map fun v => v.category).sum ≤ 8) (hdd : d' < d) (hd : decode cc pc = .ok (.invokevirtual idx, 3)) (hD : bc o K = some rr)
    (hS : ∀ r w1, o = some (r, w1) → CtR l0 ρ cs G y bytes maxL ty d' (.ref (ρ i) :: As) w r w1)
    (kk : ∀ r w1, o = some (r, w1) → K r w1 = some rr → gG ρ cs G X (pc + 3) L (.ref (ρ r) :: st) w1) : gG ρ cs G X pc L stk w := by
  obtain ⟨r, w1, ho, hD⟩ := bc_some hD
  have hM := hS r w1 ho
  obtain ⟨p, l, e, R, s, m, args, below, meth, c, n1, kc, ks, Q⟩ := X
  obtain ⟨hll, hx, hb, hml, hown, hts, hK, hin, hR, hO⟩ := h
  subst hll
  intro H locs ls hP hS2 hl
  obtain ⟨y1, y2, y3, y4⟩ := hy
  have hroom : (rmd d').frames + 1 ≤ R.frames ∧ 8 + (maxL + 11) + (rmd d').locals ≤ R.locals := by
    obtain ⟨r1, r2, -, -⟩ := hR
    show d' + 1 + 1 ≤ R.frames ∧ 8 + (maxL + 11) + 64 * (d' + 1) ≤ R.locals
    omega
  have hcs : kc + 0 ≤ R.cells ∧ ks + 0 ≤ R.slots := ⟨hR.2.2.1, hR.2.2.2⟩
  obtain ⟨q, hc, hq⟩ : ∃ q, vcls[c']? = some q ∧ q.1 = y.cls := by
    cases hz : vcls[c']? with
    | none => rw [hz] at hcl; cases hcl
    | some q => rw [hz] at hcl; exact ⟨q, rfl, Option.some.inj hcl⟩
  have hrec := va_recv hK hP hc (cells_get (ρ := ρ) (cs := cs) (w := w) hiN (cel_ob hs))
  rw [hq] at hrec
  have hp : PreV s H y.cls (ρ i) (va_Pc (.ref (ρ i) :: As) (Wld ρ cs G w)) As := ⟨wld_blind, hrec, fun U hU hW => ⟨rfl, by rw [hU]; exact hP, va_K.moved hW.alike hK, by rw [hU]; exact (hO.kept hS2.2.1).warm hW⟩⟩
  have hrun : va_Run p l e R s m args below meth c H locs kc ks 0 0 (F0 m pc ls stk) st (va_Qr (fun _ : Unit => True) (fun _ a t => a = ρ r ∧ Wld ρ cs G w1 t) (A0 ρ) (Value.ref (ρ i) :: As).toArray) (A0 ρ) := by
    rcases hl0 with hl0 | ⟨host, hl0⟩
    · exact va_runV ⟨hx, hb, hml, hown, hts⟩ hM ⟨callB_of n hts (good_vtb y1) rfl rfl rfl (hts _ y2) (hts _ hl0) y3 hroom, hts _ hm.1, hts _ hm.2⟩ hp rfl hAs hl.1 hst (lv_room hcat) hd hcs
    · exact va_runVN ⟨hx, hb, hml, hown, hts⟩ hM ⟨va_cnB n hts (good_vtb y1) rfl rfl rfl (hO.2.2.2.2.2.2 _ hl0) (hts _ y2) y3 hroom, hts _ hm.1, hts _ hm.2⟩ hp rfl hAs hl.1 hst (lv_room hcat) hd hcs
  refine va_callr hrun hS2 (fun q _ z => z) (fun q z => z) (fun u ra t H1 locs1 ht hvm hw hB hz hk hS3 => ?_)
  obtain ⟨hra, hB⟩ := hB
  subst hra
  exact kk r w1 ho hD H1 locs1 ls (by rw [← ht]; exact hB.1) hS3 hl
theorem g_callSR (h : Okx l0 ρ cs G X cc own d) {idx n maxL d' : Nat} {y : MethodName} {bytes : ByteArray} {ty : FieldType} {As : List Value} {o : Option (Nat × Wd)} {K : Nat → Wd → Option α}
    (hy : MY y bytes maxL (some ty) n) (hm : Cond.static y ∈ vtb) (hl0 : ML own idx y) (hAs : As.length = n) (hst : stk = As.reverse ++ st) (hcat : (st.map fun v => v.category).sum ≤ 8) (hdd : d' < d) (hd : decode cc pc = .ok (.invokestatic idx, 3)) (hD : bc o K = some rr)
    (hS : ∀ r w1, o = some (r, w1) → CtR l0 ρ cs G y bytes maxL ty d' As w r w1)
    (kk : ∀ r w1, o = some (r, w1) → K r w1 = some rr → gG ρ cs G X (pc + 3) L (.ref (ρ r) :: st) w1) : gG ρ cs G X pc L stk w := by
  obtain ⟨r, w1, ho, hD⟩ := bc_some hD
  have hM := hS r w1 ho
  obtain ⟨p, l, e, R, s, m, args, below, meth, c, n1, kc, ks, Q⟩ := X
  obtain ⟨hll, hx, hb, hml, hown, hts, hK, hin, hR, hO⟩ := h
  subst hll
  intro H locs ls hP hS2 hl
  obtain ⟨y1, y2, y3, y4⟩ := hy
  have hroom : (rmd d').frames + 1 ≤ R.frames ∧ 8 + (maxL + 11) + (rmd d').locals ≤ R.locals := by
    obtain ⟨r1, r2, -, -⟩ := hR
    show d' + 1 + 1 ≤ R.frames ∧ 8 + (maxL + 11) + 64 * (d' + 1) ≤ R.locals
    omega
  have hcs : kc + 0 ≤ R.cells ∧ ks + 0 ≤ R.slots := ⟨hR.2.2.1, hR.2.2.2⟩
  have hp : PreS s H (va_Pc As (Wld ρ cs G w)) As := ⟨wld_blind, fun U hU hW => ⟨rfl, by rw [hU]; exact hP, va_K.moved hW.alike hK, by rw [hU]; exact (hO.kept hS2.2.1).warm hW⟩⟩
  have hrun : va_Run p l e R s m args below meth c H locs kc ks 0 0 (F0 m pc ls stk) st (va_Qr (fun _ : Unit => True) (fun _ a t => a = ρ r ∧ Wld ρ cs G w1 t) (A0 ρ) As.toArray) (A0 ρ) := by
    rcases hl0 with hl0 | ⟨host, hl0⟩
    · exact va_runS ⟨hx, hb, hml, hown, hts⟩ hM ⟨callB_of n hts (good_vtb y1) rfl rfl rfl (hts _ y2) (hts _ hl0) y3 hroom, hts _ hm⟩ hp rfl hAs hl.1 hst (lv_room hcat) hd hcs
    · exact va_runSN ⟨hx, hb, hml, hown, hts⟩ hM ⟨va_cnB n hts (good_vtb y1) rfl rfl rfl (hO.2.2.2.2.2.2 _ hl0) (hts _ y2) y3 hroom, hts _ hm, trivial⟩ hp rfl hAs hl.1 hst (lv_room hcat) hd hcs
  refine va_callr hrun hS2 (fun q _ z => z) (fun q z => z) (fun u ra t H1 locs1 ht hvm hw hB hz hk hS3 => ?_)
  obtain ⟨hra, hB⟩ := hB
  subst hra
  exact kk r w1 ho hD H1 locs1 ls (by rw [← ht]; exact hB.1) hS3 hl
end GC
theorem ctI_of {l : Launch} {ρ : Nat → Nat} {cs : Nat → ClassId} {G : va_G} {y : MethodName} {cc : ByteArray} {maxL d : Nat} {ty : FieldType} {av : List Value} {w w' : Wd} {r : Int32} (hρ : injN ρ) (hy : plainName y.cls = true) (hav : (lg_sl av).length ≤ maxL) 
    (body : ∀ X : Cx, X.2.2.2.2.2.2.2.2.2.2.1 = maxL → Okx l ρ cs G X cc y.cls d → (∀ pc L, decode cc pc = .ok (.ireturn, 1) → narrow ty (.int r) = .int r → gG ρ cs G X pc L [.int r] w') → gG ρ cs G X 0 (lv_args 0 av) [] w) : CtI l ρ cs G y cc maxL ty d av w r w' := by
  refine Met.ofW (cc := cc) (maxL := maxL) (ret := (some ty)) hy rfl ?_
  intro p e s m args below meth c s₁ B hml hv
  obtain ⟨rfl, hP, hK, hO⟩ := hv
  have hx := B.exec
  have hb := B.bytes
  have hr := B.returns
  have hts := atoms_spec (ws := wsO y cc maxL (some ty)) B.pre
  have hown : s.vm.findClass y.cls = some m.cls := findClass_of_methodNamed B.named
  have hlocks := B.notSynchronized
  have hl := lv_entry av hav
  rw [lg_entry_eq]
  generalize (lg_sl av ++ List.replicate (maxL - (lg_sl av).length) Slot.unset).toArray = ls at hl ⊢
  refine body (p, l, e, _, s, m, _, below, meth, c, maxL, 0, 0, _) rfl ⟨rfl, hx, hb, hml, hown, fun w hw => hts w (List.mem_cons_of_mem _ hw), hK, hρ, ⟨Nat.le_refl _, Nat.le_refl _, Nat.zero_le _, Nat.zero_le _⟩, hO⟩ ?_ s.heap [] ls hP va_S.rf hl
  intro pc L hd hn H locs ls hP hS hl
  exact W.zret hx hb hr hn (fun t ht hW => ⟨⟨r, (), rfl, rfl, ⟨by rw [ht]; exact hP, va_K.moved hW.alike hK, by rw [ht]; exact (hO.kept hS.2.1).warm hW⟩⟩, hS.F ht⟩) (fun q hq => hS.2.2 q hq) hd
theorem ctJ_of {l : Launch} {ρ : Nat → Nat} {cs : Nat → ClassId} {G : va_G} {y : MethodName} {cc : ByteArray} {maxL d : Nat} {av : List Value} {w w' : Wd} {r : Int64} (hρ : injN ρ) (hy : plainName y.cls = true) (hav : (lg_sl av).length ≤ maxL) 
    (body : ∀ X : Cx, X.2.2.2.2.2.2.2.2.2.2.1 = maxL → Okx l ρ cs G X cc y.cls d → (∀ pc L, decode cc pc = .ok (.lreturn, 1) → gG ρ cs G X pc L [.long r] w') → gG ρ cs G X 0 (lv_args 0 av) [] w) : CtJ l ρ cs G y cc maxL d av w r w' := by
  refine Met.ofW (cc := cc) (maxL := maxL) (ret := (some .long)) hy rfl ?_
  intro p e s m args below meth c s₁ B hml hv
  obtain ⟨rfl, hP, hK, hO⟩ := hv
  have hx := B.exec
  have hb := B.bytes
  have hr := B.returns
  have hts := atoms_spec (ws := wsO y cc maxL (some .long)) B.pre
  have hown : s.vm.findClass y.cls = some m.cls := findClass_of_methodNamed B.named
  have hlocks := B.notSynchronized
  have hl := lv_entry av hav
  rw [lg_entry_eq]
  generalize (lg_sl av ++ List.replicate (maxL - (lg_sl av).length) Slot.unset).toArray = ls at hl ⊢
  refine body (p, l, e, _, s, m, _, below, meth, c, maxL, 0, 0, _) rfl ⟨rfl, hx, hb, hml, hown, fun w hw => hts w (List.mem_cons_of_mem _ hw), hK, hρ, ⟨Nat.le_refl _, Nat.le_refl _, Nat.zero_le _, Nat.zero_le _⟩, hO⟩ ?_ s.heap [] ls hP va_S.rf hl
  intro pc L hd H locs ls hP hS hl
  exact W.lret hx hb hr (fun t ht hW => ⟨⟨r, (), rfl, rfl, ⟨by rw [ht]; exact hP, va_K.moved hW.alike hK, by rw [ht]; exact (hO.kept hS.2.1).warm hW⟩⟩, hS.F ht⟩) (fun q hq => hS.2.2 q hq) hd
theorem ctV_of {l : Launch} {ρ : Nat → Nat} {cs : Nat → ClassId} {G : va_G} {y : MethodName} {cc : ByteArray} {maxL d : Nat} {av : List Value} {w w' : Wd}  (hρ : injN ρ) (hy : plainName y.cls = true) (hav : (lg_sl av).length ≤ maxL) 
    (body : ∀ X : Cx, X.2.2.2.2.2.2.2.2.2.2.1 = maxL → Okx l ρ cs G X cc y.cls d → (∀ pc L, decode cc pc = .ok (.return_, 1) → gG ρ cs G X pc L [] w') → gG ρ cs G X 0 (lv_args 0 av) [] w) : CtV l ρ cs G y cc maxL d av w w' := by
  refine Met.ofW (cc := cc) (maxL := maxL) (ret := none) hy rfl ?_
  intro p e s m args below meth c s₁ B hml hv
  obtain ⟨rfl, hP, hK, hO⟩ := hv
  have hx := B.exec
  have hb := B.bytes
  have hr := B.returns
  have hts := atoms_spec (ws := wsO y cc maxL none) B.pre
  have hown : s.vm.findClass y.cls = some m.cls := findClass_of_methodNamed B.named
  have hlocks := B.notSynchronized
  have hl := lv_entry av hav
  rw [lg_entry_eq]
  generalize (lg_sl av ++ List.replicate (maxL - (lg_sl av).length) Slot.unset).toArray = ls at hl ⊢
  refine body (p, l, e, _, s, m, _, below, meth, c, maxL, 0, 0, _) rfl ⟨rfl, hx, hb, hml, hown, fun w hw => hts w (List.mem_cons_of_mem _ hw), hK, hρ, ⟨Nat.le_refl _, Nat.le_refl _, Nat.zero_le _, Nat.zero_le _⟩, hO⟩ ?_ s.heap [] ls hP va_S.rf hl
  intro pc L hd H locs ls hP hS hl
  exact W.vret hx hb hr (fun t ht hW => ⟨⟨(), rfl, trivial, ⟨by rw [ht]; exact hP, va_K.moved hW.alike hK, by rw [ht]; exact (hO.kept hS.2.1).warm hW⟩⟩, hS.F ht⟩) (fun q hq => hS.2.2 q hq) hd
theorem ctR_of {l : Launch} {ρ : Nat → Nat} {cs : Nat → ClassId} {G : va_G} {y : MethodName} {cc : ByteArray} {maxL d : Nat} {ty : FieldType} {av : List Value} {w w' : Wd} {r : Nat} (hρ : injN ρ) (hy : plainName y.cls = true) (hav : (lg_sl av).length ≤ maxL) (hn : (∃ n, ty = .object n) ∨ ∃ t, ty = .array t) 
    (body : ∀ X : Cx, X.2.2.2.2.2.2.2.2.2.2.1 = maxL → Okx l ρ cs G X cc y.cls d → (∀ pc L, decode cc pc = .ok (.areturn, 1) → gG ρ cs G X pc L [.ref (ρ r)] w') → gG ρ cs G X 0 (lv_args 0 av) [] w) : CtR l ρ cs G y cc maxL ty d av w r w' := by
  refine Met.ofW (cc := cc) (maxL := maxL) (ret := (some ty)) hy rfl ?_
  intro p e s m args below meth c s₁ B hml hv
  obtain ⟨rfl, hP, hK, hO⟩ := hv
  have hx := B.exec
  have hb := B.bytes
  have hr := B.returns
  have hts := atoms_spec (ws := wsO y cc maxL (some ty)) B.pre
  have hown : s.vm.findClass y.cls = some m.cls := findClass_of_methodNamed B.named
  have hlocks := B.notSynchronized
  have hl := lv_entry av hav
  rw [lg_entry_eq]
  generalize (lg_sl av ++ List.replicate (maxL - (lg_sl av).length) Slot.unset).toArray = ls at hl ⊢
  refine body (p, l, e, _, s, m, _, below, meth, c, maxL, 0, 0, _) rfl ⟨rfl, hx, hb, hml, hown, fun w hw => hts w (List.mem_cons_of_mem _ hw), hK, hρ, ⟨Nat.le_refl _, Nat.le_refl _, Nat.zero_le _, Nat.zero_le _⟩, hO⟩ ?_ s.heap [] ls hP va_S.rf hl
  intro pc L hd H locs ls hP hS hl
  exact W.aret hx hb hr hn (Or.inr ⟨_, rfl⟩) (fun t ht hW => ⟨⟨(), ρ r, rfl, trivial, rfl, ⟨by rw [ht]; exact hP, va_K.moved hW.alike hK, by rw [ht]; exact (hO.kept hS.2.1).warm hW⟩⟩, hS.F ht⟩) (fun q hq => hS.2.2 q hq) hd
