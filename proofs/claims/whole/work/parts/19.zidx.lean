/-! indexOf on the two texts -/
theorem bd_e0 {α β : Type} (a : α) (f : α → β) : bd a f = f a := rfl
theorem bc_e0 {α β γ : Type} (a : α) (b : β) (f : α → β → Option γ) : bc (some (a, b)) f = f a b := rfl
def fnd (i : Nat) (b : Int32) : Nat → Nat → Int32
  | 0, _ => -1
  | m + 1, j => if sby i j = b then nI j else fnd i b m (j + 1)
theorem loop_fnd {q N : Nat} {b : Int32} {w : Wd} (hN : slN q = N) (hN2 : N < 100) : ∀ (m j n : Nat), j + m = N → m < n → L_J1_indexOfChar_4cfef_7 q (nI N) b J_J1_indexOfChar_4cfef_x22_1 J_J1_indexOfChar_4cfef_x31_2 n (nI j) w = some (fnd q b m j, w) := by
  intro m
  induction m with
  | zero =>
    intro j n hj hn
    obtain ⟨n, rfl⟩ : ∃ n', n = n' + 1 := ⟨n - 1, by omega⟩
    unfold L_J1_indexOfChar_4cfef_7
    rw [if_pos (nI_le (by omega) (by omega))]
    rfl
  | succ m ih =>
    intro j n hj hn
    obtain ⟨n, rfl⟩ : ∃ n', n = n' + 1 := ⟨n - 1, by omega⟩
    have hib : ib (nI j) (slN q) = true := by
      simp only [ib, Bool.and_eq_true, decide_eq_true_eq]
      exact ⟨nI_pos' (by omega), by rw [nI_clamp (by omega)]; omega⟩
    unfold L_J1_indexOfChar_4cfef_7 fnd
    rw [if_neg (nI_ge (by omega) (by omega)), if_pos hib, nI_clamp (by omega)]
    by_cases h : sby q j = b
    · rw [if_pos h, if_pos h]
      rfl
    · rw [if_neg h, if_neg h]
      rw [bd_e0, nI_1]
      exact ih (j + 1) n (by omega) (by omega)
theorem fnd_0 : ∀ n, n < 256 → fnd 0 ((nI n).toInt8.toInt32) 6 0 = sidx 0 (nI n) := by decide +kernel
theorem fnd_1 : ∀ n, n < 256 → fnd 1 ((nI n).toInt8.toInt32) 7 0 = sidx 1 (nI n) := by decide +kernel
theorem sidx_hi {i n : Nat} (h : 255 < n) (hn : n < 65536) : sidx i (nI n) = -1 := by
  have key : ∀ k : Nat, k < 200 → ¬ nI n = nI k := fun k hk e => by
    have := (nI_eq (by omega) (by omega)).mp e
    omega
  unfold sidx
  rw [show (115 : Int32) = nI 115 from by decide +kernel, show (114 : Int32) = nI 114 from by decide +kernel, show (99 : Int32) = nI 99 from by decide +kernel, show (107 : Int32) = nI 107 from by decide +kernel, show (120 : Int32) = nI 120 from by decide +kernel, show (116 : Int32) = nI 116 from by decide +kernel, show (97 : Int32) = nI 97 from by decide +kernel, show (112 : Int32) = nI 112 from by decide +kernel, show (110 : Int32) = nI 110 from by decide +kernel, show (108 : Int32) = nI 108 from by decide +kernel, show (101 : Int32) = nI 101 from by decide +kernel, show (111 : Int32) = nI 111 from by decide +kernel]
  simp only [if_neg (key 115 (by decide)), if_neg (key 114 (by decide)), if_neg (key 99 (by decide)), if_neg (key 107 (by decide)), if_neg (key 120 (by decide)), if_neg (key 116 (by decide)), if_neg (key 97 (by decide)), if_neg (key 112 (by decide)), if_neg (key 110 (by decide)), if_neg (key 108 (by decide)), if_neg (key 101 (by decide)), if_neg (key 111 (by decide))]
  split <;> rfl
theorem d_idx {i n : Nat} {w : Wd} (hi : i < 2) (hn : n < 65536) : D_J0_indexOf_0f7a4 i (nI n) w = some (sidx i (nI n), w) := by
  have hlen : ∀ i, i < 2 → slen i >>> ((0 : Int32) &&& 31) = slen i := by decide +kernel
  have hmin : ∀ i, i < 2 → imin (slen i) (slen i) = slen i := by decide +kernel
  have hlt : ∀ i, i < 2 → (0 : Int32) < slen i := by decide +kernel
  have hsl : slen i = nI (slN i) := rfl
  have hsN : slN i < 100 := by
    rcases (by omega : i = 0 ∨ i = 1) with h | h <;> subst h <;> decide
  have h1 : D_J0_isLatin1_aae02 i w = some (1, w) := by
    unfold D_J0_isLatin1_aae02
    rw [if_neg (by decide), if_pos rfl]
  have h2 : D_J0_length_8abf5 i w = some (slen i, w) := by
    have h3 : D_J0_coder_7d493 i w = some (0, w) := by
      unfold D_J0_coder_7d493
      rw [if_neg (by decide)]
    unfold D_J0_length_8abf5
    rw [h3, bc_e0, hlen i hi]
  have h4 : D_J1_indexOf_4cfef i (nI n) 0 (slen i) w = some (sidx i (nI n), w) := by
    unfold D_J1_indexOf_4cfef
    by_cases hb : n ≤ 255
    · have h5 : D_J1_canEncode_9a6ad (nI n) w = some (1, w) := by
        unfold D_J1_canEncode_9a6ad
        rw [if_neg (nI_pos (by omega)), if_neg (by rw [show (255 : Int32) = nI 255 from by decide +kernel]; exact nI_nlt hb (by omega))]
      have h6 : D_J1_indexOfChar_4cfef i (nI n) 0 (slen i) w = some (sidx i (nI n), w) := by
        unfold D_J1_indexOfChar_4cfef
        rw [bd_e0]
        have e := loop_fnd (b := (nI n).toInt8.toInt32) (w := w) (q := i) rfl hsN (slN i) 0 FU (by omega) (by unfold FU; omega)
        rw [nI_0] at e
        rw [hsl, e]
        rcases (by omega : i = 0 ∨ i = 1) with h | h
        · subst h
          rw [show slN 0 = 6 from rfl, fnd_0 n (by omega)]
        · subst h
          rw [show slN 1 = 7 from rfl, fnd_1 n (by omega)]
      rw [h5, bc_e0, if_neg (by decide), bd_e0, bd_e0, hmin i hi, show imax 0 0 = 0 from by decide +kernel, if_pos (hlt i hi), h6, bc_e0]
    · have h5 : D_J1_canEncode_9a6ad (nI n) w = some (0, w) := by
        unfold D_J1_canEncode_9a6ad
        rw [if_neg (nI_pos (by omega)), if_pos (by rw [show (255 : Int32) = nI 255 from by decide +kernel]; exact nI_lt (by omega) (by omega))]
      rw [h5, bc_e0, if_pos rfl, sidx_hi (by omega) hn]
  unfold D_J0_indexOf_0f7a4 D_J0_indexOf_7cf53
  rw [h1, bc_e0, if_neg (by decide), h2, bc_e0, h4, bc_e0, bc_e0]
section GX
variable {l0 : Launch} {ρ : Nat → Nat} {cs : Nat → ClassId} {G : va_G} {X : Cx} {cc : ByteArray} {own : String} {d : Nat} {pc : Nat} {L : List (Nat × Value)} {st : List Value} {w : Wd}
theorem g_sidx (h : Okx l0 ρ cs G X cc own d) {idx : Nat} {c : Int32} (i : Nat) (hi : i < 2) (hc : (0 ≤ c) ∧ c < 65536) (hdd : 8 < d) (hf : Cond.methodLink own idx ⟨"java/lang/String", "indexOf", "(I)I"⟩ ∈ vtb) (hcat : (st.map fun v => v.category).sum ≤ 8) (hd : decode cc pc = .ok (.invokevirtual idx, 3)) (kk : gG ρ cs G X (pc + 3) L (.int (sidx i c) :: st) w) : gG ρ cs G X pc L (.int c :: .ref (ρ (200 + i)) :: st) w := by
  have hinj : injN ρ := by
    obtain ⟨p, l, e, R, s, m, args, below, meth, c, n, kc, ks, Q⟩ := X
    obtain ⟨hll, hx, hb, hml, hown, hts, hK, hin, hR, hO⟩ := h
    exact hin
  obtain ⟨n, hn, hcn⟩ : ∃ n, n < 65536 ∧ c = nI n := by
    obtain ⟨j, hj, e⟩ := nI_of (Int32.not_lt.mpr hc.1)
    refine ⟨j, ?_, e⟩
    have h2 := hc.2
    rw [e, show (65536 : Int32) = nI 65536 from by decide +kernel] at h2
    exact (nI_ltI hj (by omega)).mp h2
  subst hcn
  refine g_callQI h i (As := [.int (nI n)]) (st := st) (o := D_J0_indexOf_0f7a4 i (nI n) w) (K := fun r w1 => some (r, w1)) (rr := (sidx i (nI n), w)) my_J0_indexOf_0f7a4 mi_J0_indexOf_0f7a4 hf hi rfl rfl rfl hcat (by omega : 3 < d) hd ?_ (fun _ _ e => S_J0_indexOf_0f7a4 hinj hi e) (fun r w1 hD => ?_)
  · rw [d_idx hi hn]
    rfl
  · cases Option.some.inj hD
    exact kk
end GX
