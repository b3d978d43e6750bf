/-! rules: what they are, their codes, what they are worth; the class judges by the codes -/
def ltr (k : Nat) : Nat := [116, 97, 112, 110, 108, 101, 111].getD k 0
def bindS (s : Nat) (a b : Int32) : Int32 := if s = 42 then a * b else if s = 43 then a + b else if s = 45 then a - b else if s = 60 then (if b ≤ a then 0 else 1) else if s = 61 then (if a = b then 1 else 0) else if s = 62 then (if a ≤ b then 0 else 1) else if b = 0 then 0 else a / b
def okOp (s : Nat) : Prop := s = 42 ∨ s = 43 ∨ s = 45 ∨ s = 47 ∨ s = 60 ∨ s = 61 ∨ s = 62
def fM (w : Wd) (o : Nat) (k : Nat) : Int32 := if k = 0 then w.1 o 4 else if k = 1 then (if w.1 o 7 = 0 then 0 else 1) else if k = 2 then w.1 o 2 else if k = 3 then w.1 o 3 else if k = 4 then w.1 o 5 else if k = 5 then w.1 o 8 else w.1 o 9
theorem d_bind {s : Nat} (h : okOp s) (a b : Int32) (w : Wd) : D_X6_bind (nI s) a b w = some (bindS s a b, w) := by
  rcases h with h | h | h | h | h | h | h <;> subst h <;> unfold D_X6_bind bindS
  · simp [show (nI 42 = (42 : Int32)) ↔ True from by decide +kernel, show (nI 42 = (43 : Int32)) ↔ False from by decide +kernel, show (nI 42 = (45 : Int32)) ↔ False from by decide +kernel, show (nI 42 = (60 : Int32)) ↔ False from by decide +kernel, show (nI 42 = (61 : Int32)) ↔ False from by decide +kernel, show (nI 42 = (62 : Int32)) ↔ False from by decide +kernel]
  · simp [show (nI 43 = (42 : Int32)) ↔ False from by decide +kernel, show (nI 43 = (43 : Int32)) ↔ True from by decide +kernel, show (nI 43 = (45 : Int32)) ↔ False from by decide +kernel, show (nI 43 = (60 : Int32)) ↔ False from by decide +kernel, show (nI 43 = (61 : Int32)) ↔ False from by decide +kernel, show (nI 43 = (62 : Int32)) ↔ False from by decide +kernel]
  · simp [show (nI 45 = (42 : Int32)) ↔ False from by decide +kernel, show (nI 45 = (43 : Int32)) ↔ False from by decide +kernel, show (nI 45 = (45 : Int32)) ↔ True from by decide +kernel, show (nI 45 = (60 : Int32)) ↔ False from by decide +kernel, show (nI 45 = (61 : Int32)) ↔ False from by decide +kernel, show (nI 45 = (62 : Int32)) ↔ False from by decide +kernel]
  · by_cases hb : b = 0 <;> simp [hb, show (nI 47 = (42 : Int32)) ↔ False from by decide +kernel, show (nI 47 = (43 : Int32)) ↔ False from by decide +kernel, show (nI 47 = (45 : Int32)) ↔ False from by decide +kernel, show (nI 47 = (60 : Int32)) ↔ False from by decide +kernel, show (nI 47 = (61 : Int32)) ↔ False from by decide +kernel, show (nI 47 = (62 : Int32)) ↔ False from by decide +kernel]
  · by_cases hb : b ≤ a <;> simp [hb, show (nI 60 = (42 : Int32)) ↔ False from by decide +kernel, show (nI 60 = (43 : Int32)) ↔ False from by decide +kernel, show (nI 60 = (45 : Int32)) ↔ False from by decide +kernel, show (nI 60 = (60 : Int32)) ↔ True from by decide +kernel, show (nI 60 = (61 : Int32)) ↔ False from by decide +kernel, show (nI 60 = (62 : Int32)) ↔ False from by decide +kernel]
  · by_cases hb : a = b <;> simp [hb, show (nI 61 = (42 : Int32)) ↔ False from by decide +kernel, show (nI 61 = (43 : Int32)) ↔ False from by decide +kernel, show (nI 61 = (45 : Int32)) ↔ False from by decide +kernel, show (nI 61 = (60 : Int32)) ↔ False from by decide +kernel, show (nI 61 = (61 : Int32)) ↔ True from by decide +kernel, show (nI 61 = (62 : Int32)) ↔ False from by decide +kernel]
  · by_cases hb : a ≤ b <;> simp [hb, show (nI 62 = (42 : Int32)) ↔ False from by decide +kernel, show (nI 62 = (43 : Int32)) ↔ False from by decide +kernel, show (nI 62 = (45 : Int32)) ↔ False from by decide +kernel, show (nI 62 = (60 : Int32)) ↔ False from by decide +kernel, show (nI 62 = (61 : Int32)) ↔ False from by decide +kernel, show (nI 62 = (62 : Int32)) ↔ True from by decide +kernel]
def lof (x : Nat) : Nat := if x = 116 then 0 else if x = 97 then 1 else if x = 112 then 2 else if x = 110 then 3 else if x = 108 then 4 else if x = 101 then 5 else if x = 111 then 6 else 7
theorem isThing_s : ∀ x, x < 256 → ((sidx 1 (((nI x).toUInt32 % 65536).toInt32)) < 0 ↔ lof x = 7) := by decide +kernel
theorem d_isThing {x : Nat} (hx : x < 256) (w : Wd) : D_X6_isThing (nI x) w = some (if lof x = 7 then 0 else 1, w) := by
  unfold D_X6_isThing
  by_cases h : lof x = 7
  · rw [if_pos ((isThing_s x hx).mpr h), if_pos h]
  · rw [if_neg (fun z => h ((isThing_s x hx).mp z)), if_neg h]
theorem lof_ltr : ∀ k, k < 7 → lof (ltr k) = k ∧ ltr k < 256 := by decide
theorem ltr_lof : ∀ x, x < 256 → lof x < 7 → ltr (lof x) = x := by decide +kernel
theorem lof_op {s : Nat} (h : okOp s) : lof s = 7 ∧ s < 256 := by
  rcases h with h | h | h | h | h | h | h <;> subst h <;> decide
theorem d_thing {k : Nat} (hk : k < 7) (o : Nat) (w : Wd) : D_X6_thing (nI (ltr k)) o w = some (fM w o k, w) := by
  rcases (by omega : k = 0 ∨ k = 1 ∨ k = 2 ∨ k = 3 ∨ k = 4 ∨ k = 5 ∨ k = 6) with h | h | h | h | h | h | h <;> subst h <;> unfold D_X6_thing fM ltr
  all_goals simp only [show ([116, 97, 112, 110, 108, 101, 111] : List Nat).getD 0 0 = 116 from rfl, show ([116, 97, 112, 110, 108, 101, 111] : List Nat).getD 1 0 = 97 from rfl, show ([116, 97, 112, 110, 108, 101, 111] : List Nat).getD 2 0 = 112 from rfl, show ([116, 97, 112, 110, 108, 101, 111] : List Nat).getD 3 0 = 110 from rfl, show ([116, 97, 112, 110, 108, 101, 111] : List Nat).getD 4 0 = 108 from rfl, show ([116, 97, 112, 110, 108, 101, 111] : List Nat).getD 5 0 = 101 from rfl, show ([116, 97, 112, 110, 108, 101, 111] : List Nat).getD 6 0 = 111 from rfl]
  · rfl
  · by_cases hb : w.1 o 7 = 0 <;> simp [hb, show (nI 97 = (97 : Int32)) ↔ True from by decide +kernel]
  all_goals rfl
theorem neg_nI {x : Nat} : -(-(nI x)) = nI x := Int32.neg_neg
theorem m256 : -(nI 256) = (-256 : Int32) := by decide +kernel
theorem ltr_ne : ∀ k, k < 7 → -(nI (ltr k)) ≠ (-256 : Int32) ∧ ¬ (0 : Int32) ≤ -(nI (ltr k)) ∧ -(nI (ltr k)) < 0 := by decide +kernel
theorem op_ne {s : Nat} (h : okOp s) : -(nI s) ≠ (-256 : Int32) ∧ ¬ (0 : Int32) ≤ -(nI s) := by
  rcases h with h | h | h | h | h | h | h <;> subst h <;> decide +kernel
theorem num_ne : ∀ n, n < 1000 → nI n ≠ (-256 : Int32) ∧ (0 : Int32) ≤ nI n ∧ ¬ nI n < 0 := by decide +kernel
theorem nI_m1 {n : Nat} (h : 1 ≤ n) : nI n - 1 = nI (n - 1) := by
  obtain ⟨m, rfl⟩ : ∃ m, n = m + 1 := ⟨n - 1, by omega⟩
  rw [nI_pred, Nat.add_sub_cancel]
theorem nI_p1 {n : Nat} (h : 1 ≤ n) : nI n + (-1) = nI (n - 1) := by
  rw [← nI_m1 h, Int32.sub_eq_add_neg]
section JU
variable {w : Wd} {o mv : Nat} {k : Wd → Option (Int32 × Wd)} {cd : List Int32}
/-- what the class's judging holds of a Rule object -/
def juH (w : Wd) (o mv : Nat) (cd : List Int32) : Prop := (∀ i x, cd[i]? = some x → w.1 (o + 1) i = x) ∧ w.1 o 2 = nI cd.length ∧ cd.length ≤ 40 ∧ mv ≠ o + 2
/-- codes that lay one number, V of the move's things, on the stack -/
def Blk (cs : List Int32) (V : (Nat → Int32) → Int32) : Prop := 1 ≤ cs.length ∧ ∀ (w : Wd) (o mv : Nat) (k : Wd → Option (Int32 × Wd)) (cd : List Int32), juH w o mv cd → ∀ (pre post : List Int32), cd = pre ++ (cs ++ post) → ∀ (n top : Nat) (g : Nat → Int32), cs.length ≤ n → top + cs.length ≤ 40 → ∃ g', L_X6_judge_31 o mv k n (nI top) (nI pre.length) (wR w (o + 2) g) = L_X6_judge_31 o mv k (n - cs.length) (nI (top + 1)) (nI (pre.length + cs.length)) (wR w (o + 2) g') ∧ g' top = V (fM w mv) ∧ ∀ j, j < top → g' j = g j
theorem ju_wR {g : Nat → Int32} {t : Nat} {x : Int32} : wI (wR w (o + 2) g) (o + 2) t x = wR w (o + 2) (upd g t x) := by
  rw [wI_wR, wR_self, wR_wR]
theorem ju_fM {g : Nat → Int32} (hm : mv ≠ o + 2) : fM (wR w (o + 2) g) mv = fM w mv := by
  funext j
  unfold fM
  rw [wR_ne hm]
theorem ju_rd (h : juH w o mv cd) {g : Nat → Int32} {pre post : List Int32} {x : Int32} (hx : cd = pre ++ (x :: post)) : (wR w (o + 2) g).1 (o + 1) (nI pre.length).toNatClampNeg = x ∧ ¬ (wR w (o + 2) g).1 o 2 ≤ nI pre.length ∧ ib (nI pre.length) 40 = true := by
  obtain ⟨hc, hs, hl, hm⟩ := h
  have : pre.length < cd.length := by rw [hx]; simp
  refine ⟨?_, ?_, ib_nI (by omega) (by omega)⟩
  · rw [nI_clamp (by omega), wR_ne (by omega)]
    exact hc _ _ (by rw [hx]; simp)
  · rw [wR_ne (by omega), hs]
    exact nI_ge this (by omega)
theorem blk_num {m : Nat} (hok : m < 1000) : Blk [nI m] (fun _ => nI m) := by
  refine ⟨by simp, fun w o mv k cd hj pre post hcd n top g hn ht => ?_⟩
  simp only [List.length_cons, List.length_nil] at hn ht ⊢
  obtain ⟨n, rfl⟩ : ∃ n', n = n' + 1 := ⟨n - 1, by omega⟩
  have hcd' : cd = pre ++ (nI m :: post) := hcd
  obtain ⟨rd, h1, h2⟩ := ju_rd hj (g := g) hcd'
  obtain ⟨q1, q2, q3⟩ := num_ne m hok
  refine ⟨upd g top (nI m), ?_, upd_self, fun j hj => upd_ne (by omega)⟩
  conv => lhs; unfold L_X6_judge_31
  rw [if_neg h1, if_pos h2, bd_eq, rd, bd_eq, if_neg q1, bd_eq, if_pos q2]
  unfold J_X6_judge_j93_2
  rw [bd_eq, if_neg q3]
  unfold J_X6_judge_j115_1
  rw [if_pos (ib_nI (by omega) (by omega)), bd_eq, bd_eq, nI_clamp (by omega), ju_wR, nI_1]
  unfold J_X6_judge_j158_3
  rw [bd_eq, nI_1]
  rfl
theorem blk_th {m : Nat} (hok : m < 7) : Blk [-(nI (ltr m))] (fun f => f m) := by
  refine ⟨by simp, fun w o mv k cd hj pre post hcd n top g hn ht => ?_⟩
  simp only [List.length_cons, List.length_nil] at hn ht ⊢
  obtain ⟨n, rfl⟩ : ∃ n', n = n' + 1 := ⟨n - 1, by omega⟩
  have hcd' : cd = pre ++ (-(nI (ltr m)) :: post) := hcd
  obtain ⟨rd, h1, h2⟩ := ju_rd hj (g := g) hcd'
  obtain ⟨q1, q2, q3⟩ := ltr_ne m hok
  refine ⟨upd g top (fM w mv m), ?_, upd_self, fun j hj => upd_ne (by omega)⟩
  conv => lhs; unfold L_X6_judge_31
  rw [if_neg h1, if_pos h2, bd_eq, rd, bd_eq, if_neg q1, bd_eq, if_neg q2, neg_nI, d_isThing (lof_ltr m hok).2, bc_eq, (lof_ltr m hok).1, if_neg (show ¬ m = 7 by omega), if_neg (by decide)]
  unfold J_X6_judge_j93_2
  rw [bd_eq, if_pos q3, neg_nI, d_thing hok, bc_eq, ju_fM hj.2.2.2]
  unfold J_X6_judge_j115_1
  rw [if_pos (ib_nI (by omega) (by omega)), bd_eq, bd_eq, nI_clamp (by omega), ju_wR, nI_1]
  unfold J_X6_judge_j158_3
  rw [bd_eq, nI_1]
  rfl
theorem blk_neg {a : List Int32} {V : (Nat → Int32) → Int32} (ha : Blk a V) : Blk (a ++ [-(nI 256)]) (fun f => -(V f)) := by
  refine ⟨by simp, fun w o mv k cd hj pre post hcd n top g hn ht => ?_⟩
  have hp := ha.1
  simp only [List.length_append, List.length_cons, List.length_nil] at hn ht ⊢
  obtain ⟨g1, e1, v1, k1⟩ := ha.2 w o mv k cd hj pre (-(nI 256) :: post) (by rw [hcd]; simp) n top g (by omega) (by omega)
  have hcd' : cd = (pre ++ a) ++ (-(nI 256) :: post) := by rw [hcd]; simp
  obtain ⟨rd1, h1, h2⟩ := ju_rd hj (g := g1) hcd'
  rw [List.length_append] at h1 h2 rd1
  refine ⟨upd g1 top (-(g1 top)), ?_, by rw [upd_self, v1], fun j hj => by rw [upd_ne (by omega)]; exact k1 j hj⟩
  rw [e1]
  obtain ⟨n', hn'⟩ : ∃ n', n - a.length = n' + 1 := ⟨n - a.length - 1, by omega⟩
  rw [hn']
  conv => lhs; unfold L_X6_judge_31
  rw [if_neg h1, if_pos h2, bd_eq, rd1, bd_eq, if_pos m256, if_neg (nI_nle (by omega) (by omega)), nI_pred, if_pos (ib_nI (by omega) (by omega)), if_pos (ib_nI (by omega) (by omega)), bd_eq, nI_clamp (by omega), wR_self, ju_wR]
  unfold J_X6_judge_j158_3
  rw [bd_eq, nI_1, show n - (a.length + (0 + 1)) = n' by omega]
  rfl
theorem blk_bin {s : Nat} {a b : List Int32} {V U : (Nat → Int32) → Int32} (hs' : okOp s) (ha : Blk a V) (hb : Blk b U) : Blk (a ++ (b ++ [-(nI s)])) (fun f => bindS s (V f) (U f)) := by
  refine ⟨by simp; omega, fun w o mv k cd hj pre post hcd n top g hn ht => ?_⟩
  have hp := ha.1
  have hp2 := hb.1
  simp only [List.length_append, List.length_cons, List.length_nil] at hn ht ⊢
  obtain ⟨g1, e1, v1, k1⟩ := ha.2 w o mv k cd hj pre (b ++ (-(nI s) :: post)) (by rw [hcd]; simp) n top g (by omega) (by omega)
  obtain ⟨g2, e2, v2, k2⟩ := hb.2 w o mv k cd hj (pre ++ a) (-(nI s) :: post) (by rw [hcd]; simp) (n - a.length) (top + 1) g1 (by omega) (by omega)
  have hcd' : cd = (pre ++ a ++ b) ++ (-(nI s) :: post) := by rw [hcd]; simp
  obtain ⟨rd1, h1, h2⟩ := ju_rd hj (g := g2) hcd'
  rw [List.length_append] at e2
  rw [List.length_append, List.length_append] at h1 h2 rd1
  obtain ⟨q1, q2⟩ := op_ne hs'
  refine ⟨upd g2 top (bindS s (g2 top) (g2 (top + 1))), ?_, by rw [upd_self, v2, k2 top (by omega), v1], fun j hj => by rw [upd_ne (by omega), k2 j (by omega)]; exact k1 j hj⟩
  rw [e1, e2]
  obtain ⟨n', hn'⟩ : ∃ n', n - a.length - b.length = n' + 1 := ⟨n - a.length - b.length - 1, by omega⟩
  rw [hn']
  conv => lhs; unfold L_X6_judge_31
  rw [if_neg h1, if_pos h2, bd_eq, rd1, bd_eq, if_neg q1, bd_eq, if_neg q2, neg_nI, d_isThing (lof_op hs').2, bc_eq, (lof_op hs').1, if_pos rfl, if_pos rfl, if_neg (by rw [nI_1', nI_leI (by omega) (by omega)]; omega), bd_eq, nI_p1 (by omega), Nat.add_sub_cancel, nI_pred, if_pos (ib_nI (by omega) (by omega)), if_pos (ib_nI (by omega) (by omega)), nI_clamp (by omega), nI_clamp (by omega), wR_self, d_bind hs', bc_eq, if_pos (ib_nI (by omega) (by omega)), bd_eq, ju_wR]
  unfold J_X6_judge_j158_3
  rw [bd_eq, nI_1, show n - (a.length + (b.length + (0 + 1))) = n' by omega, show pre.length + (a.length + (b.length + (0 + 1))) = pre.length + a.length + b.length + 1 by omega]
/-- the class's judging of a rule that is not empty -/
theorem d_judge (hj : juH w o mv cd) {V : (Nat → Int32) → Int32} (hb : Blk cd V) : ∃ g, D_X6_judge o mv w = some (V (fM w mv), wR w (o + 2) g) := by
  have hp := hb.1
  obtain ⟨g, e1, v1, -⟩ := hb.2 w o mv (J_X6_judge_x164_4 o) cd hj [] [] (by simp) FU 0 (w.1 (o + 2)) (by have := hj.2.2.1; unfold FU; omega) (by have := hj.2.2.1; omega)
  obtain ⟨hc, hs, hl, hm⟩ := hj
  refine ⟨g, ?_⟩
  unfold D_X6_judge
  rw [hs, if_neg (by rw [nI_z (by omega)]; omega)]
  rw [wR_id] at e1
  rw [show (0 : Int32) = nI 0 from nI_0']
  refine e1.trans ?_
  obtain ⟨n', hn'⟩ : ∃ n', FU - cd.length = n' + 1 := ⟨FU - cd.length - 1, by unfold FU; omega⟩
  rw [hn']
  unfold L_X6_judge_31
  rw [wR_ne (by omega), hs, if_pos (nI_le (by simp) (by simp; omega))]
  unfold J_X6_judge_x164_4
  rw [if_pos (by decide), wR_self, show (0 : Int32).toNatClampNeg = 0 from by decide, v1]
theorem d_judge0 (hs : w.1 o 2 = 0) : D_X6_judge o mv w = some (fM w mv 0 * 3 + fM w mv 1 * 2, w) := by
  unfold D_X6_judge
  rw [if_pos hs]
  unfold fM
  by_cases h : w.1 mv 7 = 0
  · rw [if_pos h, if_pos rfl, if_neg (by decide), if_pos rfl, if_pos h]
    rfl
  · rw [if_neg h, if_pos rfl, if_neg (by decide), if_pos rfl, if_neg h]
    rfl
end JU
