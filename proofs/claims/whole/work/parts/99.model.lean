/-! the reference's constructor -/
def y_X12_init : MethodName := ⟨"SowingBoardsModel", "<init>", "()V"⟩
theorem t_X12_init_0 : decode prog_14_method_1_code 0 = .ok (.aload_n 0, 1) := by decide +kernel
theorem t_X12_init_1 : decode prog_14_method_1_code 1 = .ok (.invokespecial 3, 3) := by decide +kernel
theorem t_X12_init_4 : decode prog_14_method_1_code 4 = .ok (.aload_n 0, 1) := by decide +kernel
theorem t_X12_init_5 : decode prog_14_method_1_code 5 = .ok (.bipush 16, 2) := by decide +kernel
theorem t_X12_init_7 : decode prog_14_method_1_code 7 = .ok (.newarray .int, 2) := by decide +kernel
theorem t_X12_init_9 : decode prog_14_method_1_code 9 = .ok (.putfield 9, 3) := by decide +kernel
theorem t_X12_init_12 : decode prog_14_method_1_code 12 = .ok (.aload_n 0, 1) := by decide +kernel
theorem t_X12_init_13 : decode prog_14_method_1_code 13 = .ok (.iconst 3, 1) := by decide +kernel
theorem t_X12_init_14 : decode prog_14_method_1_code 14 = .ok (.putfield 13, 3) := by decide +kernel
theorem t_X12_init_17 : decode prog_14_method_1_code 17 = .ok (.aload_n 0, 1) := by decide +kernel
theorem t_X12_init_18 : decode prog_14_method_1_code 18 = .ok (.bipush 21, 2) := by decide +kernel
theorem t_X12_init_20 : decode prog_14_method_1_code 20 = .ok (.putfield 17, 3) := by decide +kernel
theorem t_X12_init_23 : decode prog_14_method_1_code 23 = .ok (.aload_n 0, 1) := by decide +kernel
theorem t_X12_init_24 : decode prog_14_method_1_code 24 = .ok (.bipush 80, 2) := by decide +kernel
theorem t_X12_init_26 : decode prog_14_method_1_code 26 = .ok (.newarray .byte, 2) := by decide +kernel
theorem t_X12_init_28 : decode prog_14_method_1_code 28 = .ok (.putfield 20, 3) := by decide +kernel
theorem t_X12_init_31 : decode prog_14_method_1_code 31 = .ok (.aload_n 0, 1) := by decide +kernel
theorem t_X12_init_32 : decode prog_14_method_1_code 32 = .ok (.bipush 24, 2) := by decide +kernel
theorem t_X12_init_34 : decode prog_14_method_1_code 34 = .ok (.newarray .long, 2) := by decide +kernel
theorem t_X12_init_36 : decode prog_14_method_1_code 36 = .ok (.putfield 24, 3) := by decide +kernel
theorem t_X12_init_39 : decode prog_14_method_1_code 39 = .ok (.aload_n 0, 1) := by decide +kernel
theorem t_X12_init_40 : decode prog_14_method_1_code 40 = .ok (.bipush 12, 2) := by decide +kernel
theorem t_X12_init_42 : decode prog_14_method_1_code 42 = .ok (.newarray .int, 2) := by decide +kernel
theorem t_X12_init_44 : decode prog_14_method_1_code 44 = .ok (.putfield 28, 3) := by decide +kernel
theorem t_X12_init_47 : decode prog_14_method_1_code 47 = .ok (.aload_n 0, 1) := by decide +kernel
theorem t_X12_init_48 : decode prog_14_method_1_code 48 = .ok (.bipush 40, 2) := by decide +kernel
theorem t_X12_init_50 : decode prog_14_method_1_code 50 = .ok (.newarray .byte, 2) := by decide +kernel
theorem t_X12_init_52 : decode prog_14_method_1_code 52 = .ok (.putfield 31, 3) := by decide +kernel
theorem t_X12_init_55 : decode prog_14_method_1_code 55 = .ok (.aload_n 0, 1) := by decide +kernel
theorem t_X12_init_56 : decode prog_14_method_1_code 56 = .ok (.bipush 40, 2) := by decide +kernel
theorem t_X12_init_58 : decode prog_14_method_1_code 58 = .ok (.newarray .byte, 2) := by decide +kernel
theorem t_X12_init_60 : decode prog_14_method_1_code 60 = .ok (.putfield 34, 3) := by decide +kernel
theorem t_X12_init_63 : decode prog_14_method_1_code 63 = .ok (.aload_n 0, 1) := by decide +kernel
theorem t_X12_init_64 : decode prog_14_method_1_code 64 = .ok (.bipush 7, 2) := by decide +kernel
theorem t_X12_init_66 : decode prog_14_method_1_code 66 = .ok (.newarray .int, 2) := by decide +kernel
theorem t_X12_init_68 : decode prog_14_method_1_code 68 = .ok (.putfield 37, 3) := by decide +kernel
theorem t_X12_init_71 : decode prog_14_method_1_code 71 = .ok (.aload_n 0, 1) := by decide +kernel
theorem t_X12_init_72 : decode prog_14_method_1_code 72 = .ok (.sipush 192, 3) := by decide +kernel
theorem t_X12_init_75 : decode prog_14_method_1_code 75 = .ok (.newarray .int, 2) := by decide +kernel
theorem t_X12_init_77 : decode prog_14_method_1_code 77 = .ok (.putfield 40, 3) := by decide +kernel
theorem t_X12_init_80 : decode prog_14_method_1_code 80 = .ok (.aload_n 0, 1) := by decide +kernel
theorem t_X12_init_81 : decode prog_14_method_1_code 81 = .ok (.bipush 16, 2) := by decide +kernel
theorem t_X12_init_83 : decode prog_14_method_1_code 83 = .ok (.newarray .int, 2) := by decide +kernel
theorem t_X12_init_85 : decode prog_14_method_1_code 85 = .ok (.putfield 43, 3) := by decide +kernel
theorem t_X12_init_88 : decode prog_14_method_1_code 88 = .ok (.aload_n 0, 1) := by decide +kernel
theorem t_X12_init_89 : decode prog_14_method_1_code 89 = .ok (.bipush 16, 2) := by decide +kernel
theorem t_X12_init_91 : decode prog_14_method_1_code 91 = .ok (.newarray .int, 2) := by decide +kernel
theorem t_X12_init_93 : decode prog_14_method_1_code 93 = .ok (.putfield 46, 3) := by decide +kernel
theorem t_X12_init_96 : decode prog_14_method_1_code 96 = .ok (.aload_n 0, 1) := by decide +kernel
theorem t_X12_init_97 : decode prog_14_method_1_code 97 = .ok (.bipush 16, 2) := by decide +kernel
theorem t_X12_init_99 : decode prog_14_method_1_code 99 = .ok (.newarray .int, 2) := by decide +kernel
theorem t_X12_init_101 : decode prog_14_method_1_code 101 = .ok (.putfield 49, 3) := by decide +kernel
theorem t_X12_init_104 : decode prog_14_method_1_code 104 = .ok (.aload_n 0, 1) := by decide +kernel
theorem t_X12_init_105 : decode prog_14_method_1_code 105 = .ok (.bipush 81, 2) := by decide +kernel
theorem t_X12_init_107 : decode prog_14_method_1_code 107 = .ok (.newarray .int, 2) := by decide +kernel
theorem t_X12_init_109 : decode prog_14_method_1_code 109 = .ok (.putfield 52, 3) := by decide +kernel
theorem t_X12_init_112 : decode prog_14_method_1_code 112 = .ok (.aload_n 0, 1) := by decide +kernel
theorem t_X12_init_113 : decode prog_14_method_1_code 113 = .ok (.bipush 7, 2) := by decide +kernel
theorem t_X12_init_115 : decode prog_14_method_1_code 115 = .ok (.bipush 16, 2) := by decide +kernel
theorem t_X12_init_117 : decode prog_14_method_1_code 117 = .ok (.multianewarray 55 2, 4) := by decide +kernel
theorem t_X12_init_121 : decode prog_14_method_1_code 121 = .ok (.putfield 57, 3) := by decide +kernel
theorem t_X12_init_124 : decode prog_14_method_1_code 124 = .ok (.aload_n 0, 1) := by decide +kernel
theorem t_X12_init_125 : decode prog_14_method_1_code 125 = .ok (.bipush 7, 2) := by decide +kernel
theorem t_X12_init_127 : decode prog_14_method_1_code 127 = .ok (.newarray .int, 2) := by decide +kernel
theorem t_X12_init_129 : decode prog_14_method_1_code 129 = .ok (.putfield 60, 3) := by decide +kernel
theorem t_X12_init_132 : decode prog_14_method_1_code 132 = .ok (.aload_n 0, 1) := by decide +kernel
theorem t_X12_init_133 : decode prog_14_method_1_code 133 = .ok (.bipush 7, 2) := by decide +kernel
theorem t_X12_init_135 : decode prog_14_method_1_code 135 = .ok (.newarray .int, 2) := by decide +kernel
theorem t_X12_init_137 : decode prog_14_method_1_code 137 = .ok (.putfield 63, 3) := by decide +kernel
theorem t_X12_init_140 : decode prog_14_method_1_code 140 = .ok (.aload_n 0, 1) := by decide +kernel
theorem t_X12_init_141 : decode prog_14_method_1_code 141 = .ok (.iconst 5, 1) := by decide +kernel
theorem t_X12_init_142 : decode prog_14_method_1_code 142 = .ok (.iconst 5, 1) := by decide +kernel
theorem t_X12_init_143 : decode prog_14_method_1_code 143 = .ok (.multianewarray 55 2, 4) := by decide +kernel
theorem t_X12_init_147 : decode prog_14_method_1_code 147 = .ok (.putfield 66, 3) := by decide +kernel
theorem t_X12_init_150 : decode prog_14_method_1_code 150 = .ok (.aload_n 0, 1) := by decide +kernel
theorem t_X12_init_151 : decode prog_14_method_1_code 151 = .ok (.iconst 5, 1) := by decide +kernel
theorem t_X12_init_152 : decode prog_14_method_1_code 152 = .ok (.newarray .int, 2) := by decide +kernel
theorem t_X12_init_154 : decode prog_14_method_1_code 154 = .ok (.putfield 69, 3) := by decide +kernel
theorem t_X12_init_157 : decode prog_14_method_1_code 157 = .ok (.aload_n 0, 1) := by decide +kernel
theorem t_X12_init_158 : decode prog_14_method_1_code 158 = .ok (.sipush 3456, 3) := by decide +kernel
theorem t_X12_init_161 : decode prog_14_method_1_code 161 = .ok (.newarray .int, 2) := by decide +kernel
theorem t_X12_init_163 : decode prog_14_method_1_code 163 = .ok (.putfield 72, 3) := by decide +kernel
theorem t_X12_init_166 : decode prog_14_method_1_code 166 = .ok (.aload_n 0, 1) := by decide +kernel
theorem t_X12_init_167 : decode prog_14_method_1_code 167 = .ok (.sipush 976, 3) := by decide +kernel
theorem t_X12_init_170 : decode prog_14_method_1_code 170 = .ok (.newarray .int, 2) := by decide +kernel
theorem t_X12_init_172 : decode prog_14_method_1_code 172 = .ok (.putfield 75, 3) := by decide +kernel
theorem t_X12_init_175 : decode prog_14_method_1_code 175 = .ok (.aload_n 0, 1) := by decide +kernel
theorem t_X12_init_176 : decode prog_14_method_1_code 176 = .ok (.bipush 24, 2) := by decide +kernel
theorem t_X12_init_178 : decode prog_14_method_1_code 178 = .ok (.newarray .int, 2) := by decide +kernel
theorem t_X12_init_180 : decode prog_14_method_1_code 180 = .ok (.putfield 78, 3) := by decide +kernel
theorem t_X12_init_183 : decode prog_14_method_1_code 183 = .ok (.aload_n 0, 1) := by decide +kernel
theorem t_X12_init_184 : decode prog_14_method_1_code 184 = .ok (.bipush 12, 2) := by decide +kernel
theorem t_X12_init_186 : decode prog_14_method_1_code 186 = .ok (.newarray .int, 2) := by decide +kernel
theorem t_X12_init_188 : decode prog_14_method_1_code 188 = .ok (.putfield 81, 3) := by decide +kernel
theorem t_X12_init_191 : decode prog_14_method_1_code 191 = .ok (.aload_n 0, 1) := by decide +kernel
theorem t_X12_init_192 : decode prog_14_method_1_code 192 = .ok (.bipush 12, 2) := by decide +kernel
theorem t_X12_init_194 : decode prog_14_method_1_code 194 = .ok (.newarray .int, 2) := by decide +kernel
theorem t_X12_init_196 : decode prog_14_method_1_code 196 = .ok (.putfield 84, 3) := by decide +kernel
theorem t_X12_init_199 : decode prog_14_method_1_code 199 = .ok (.aload_n 0, 1) := by decide +kernel
theorem t_X12_init_200 : decode prog_14_method_1_code 200 = .ok (.bipush 10, 2) := by decide +kernel
theorem t_X12_init_202 : decode prog_14_method_1_code 202 = .ok (.newarray .int, 2) := by decide +kernel
theorem t_X12_init_204 : decode prog_14_method_1_code 204 = .ok (.putfield 87, 3) := by decide +kernel
theorem t_X12_init_207 : decode prog_14_method_1_code 207 = .ok (.aload_n 0, 1) := by decide +kernel
theorem t_X12_init_208 : decode prog_14_method_1_code 208 = .ok (.bipush 10, 2) := by decide +kernel
theorem t_X12_init_210 : decode prog_14_method_1_code 210 = .ok (.newarray .int, 2) := by decide +kernel
theorem t_X12_init_212 : decode prog_14_method_1_code 212 = .ok (.putfield 90, 3) := by decide +kernel
theorem t_X12_init_215 : decode prog_14_method_1_code 215 = .ok (.aload_n 0, 1) := by decide +kernel
theorem t_X12_init_216 : decode prog_14_method_1_code 216 = .ok (.bipush 64, 2) := by decide +kernel
theorem t_X12_init_218 : decode prog_14_method_1_code 218 = .ok (.newarray .boolean, 2) := by decide +kernel
theorem t_X12_init_220 : decode prog_14_method_1_code 220 = .ok (.putfield 93, 3) := by decide +kernel
theorem t_X12_init_223 : decode prog_14_method_1_code 223 = .ok (.aload_n 0, 1) := by decide +kernel
theorem t_X12_init_224 : decode prog_14_method_1_code 224 = .ok (.bipush 51, 2) := by decide +kernel
theorem t_X12_init_226 : decode prog_14_method_1_code 226 = .ok (.newarray .int, 2) := by decide +kernel
theorem t_X12_init_228 : decode prog_14_method_1_code 228 = .ok (.putfield 97, 3) := by decide +kernel
theorem t_X12_init_231 : decode prog_14_method_1_code 231 = .ok (.aload_n 0, 1) := by decide +kernel
theorem t_X12_init_232 : decode prog_14_method_1_code 232 = .ok (.bipush 32, 2) := by decide +kernel
theorem t_X12_init_234 : decode prog_14_method_1_code 234 = .ok (.newarray .int, 2) := by decide +kernel
theorem t_X12_init_236 : decode prog_14_method_1_code 236 = .ok (.putfield 100, 3) := by decide +kernel
theorem t_X12_init_239 : decode prog_14_method_1_code 239 = .ok (.aload_n 0, 1) := by decide +kernel
theorem t_X12_init_240 : decode prog_14_method_1_code 240 = .ok (.iconst 2, 1) := by decide +kernel
theorem t_X12_init_241 : decode prog_14_method_1_code 241 = .ok (.newarray .boolean, 2) := by decide +kernel
theorem t_X12_init_243 : decode prog_14_method_1_code 243 = .ok (.putfield 103, 3) := by decide +kernel
theorem t_X12_init_246 : decode prog_14_method_1_code 246 = .ok (.aload_n 0, 1) := by decide +kernel
theorem t_X12_init_247 : decode prog_14_method_1_code 247 = .ok (.iconst 2, 1) := by decide +kernel
theorem t_X12_init_248 : decode prog_14_method_1_code 248 = .ok (.newarray .int, 2) := by decide +kernel
theorem t_X12_init_250 : decode prog_14_method_1_code 250 = .ok (.putfield 106, 3) := by decide +kernel
theorem t_X12_init_253 : decode prog_14_method_1_code 253 = .ok (.iconst 0, 1) := by decide +kernel
theorem t_X12_init_254 : decode prog_14_method_1_code 254 = .ok (.istore_n 1, 1) := by decide +kernel
theorem t_X12_init_255 : decode prog_14_method_1_code 255 = .ok (.iload_n 1, 1) := by decide +kernel
theorem t_X12_init_256 : decode prog_14_method_1_code 256 = .ok (.bipush 6, 2) := by decide +kernel
theorem t_X12_init_258 : decode prog_14_method_1_code 258 = .ok (.if_icmp .ge 16, 3) := by decide +kernel
theorem t_X12_init_261 : decode prog_14_method_1_code 261 = .ok (.aload_n 0, 1) := by decide +kernel
theorem t_X12_init_262 : decode prog_14_method_1_code 262 = .ok (.getfield 9, 3) := by decide +kernel
theorem t_X12_init_265 : decode prog_14_method_1_code 265 = .ok (.iload_n 1, 1) := by decide +kernel
theorem t_X12_init_266 : decode prog_14_method_1_code 266 = .ok (.iconst 3, 1) := by decide +kernel
theorem t_X12_init_267 : decode prog_14_method_1_code 267 = .ok (.iastore, 1) := by decide +kernel
theorem t_X12_init_268 : decode prog_14_method_1_code 268 = .ok (.iinc 1 1, 3) := by decide +kernel
theorem t_X12_init_271 : decode prog_14_method_1_code 271 = .ok (.goto (-16), 3) := by decide +kernel
theorem t_X12_init_274 : decode prog_14_method_1_code 274 = .ok (.return_, 1) := by decide +kernel
theorem my_X12_init : MY y_X12_init prog_14_method_1_code 2 none 0 := ⟨vtb_at 1335 (by decide +kernel) rfl, vtb_at 152 (by decide +kernel) rfl, ⟨by decide, by decide, by decide +kernel⟩, by decide⟩
abbrev res_X12_init (cs : Nat → ClassId) (a : Nat) (w1 : va_W) : Prop := ∃ q1 q2 q3 q4 q5 q6 q7 q8 q9 q10 q11 q12 q13 q14 q15 q16 q17 q18 q19 q20 q21 q22 q23 q24 q25 q26 q27 q28 q29, w1 = [(a, .inr (12, [.ref q1, .int 3, .int 21, .ref q2, .int 0, .ref q3, .int 0, .int 0, .null, .int 0, .int 0, .int 0, .int 0, .ref q4, .ref q5, .ref q6, .int 0, .int 0, .ref q7, .int 0, .int 0, .int 0, .ref q8, .int 0, .ref q9, .ref q10, .ref q11, .ref q12, .int 0, .ref q13, .ref q14, .ref q15, .int 0, .int 0, .ref q16, .ref q17, .int 0, .ref q18, .int 0, .ref q19, .ref q20, .ref q21, .ref q22, .int 0, .ref q23, .ref q24, .int 0, .ref q25, .ref q26, .int 0, .int 0, .int 0, .ref q27, .ref q28, .ref q29])), (q29, .inl (cs 0, 2, .inl (fun _ => 0))), (q28, .inl (cs 2, 2, .inl (fun _ => 0))), (q27, .inl (cs 0, 32, .inl (fun _ => 0))), (q26, .inl (cs 0, 51, .inl (fun _ => 0))), (q25, .inl (cs 2, 64, .inl (fun _ => 0))), (q24, .inl (cs 0, 10, .inl (fun _ => 0))), (q23, .inl (cs 0, 10, .inl (fun _ => 0))), (q22, .inl (cs 0, 12, .inl (fun _ => 0))), (q21, .inl (cs 0, 12, .inl (fun _ => 0))), (q20, .inl (cs 0, 24, .inl (fun _ => 0))), (q19, .inl (cs 0, 976, .inl (fun _ => 0))), (q18, .inl (cs 0, 3456, .inl (fun _ => 0))), (q17, .inl (cs 0, 5, .inl (fun _ => 0))), (q16, .inl (cs 5, 5, .inr (.inr (.inr (.inr (fun j => if j < 5 then some (q16 + 1 + j) else none)))))), (q16 + 1 + 0, .inl (cs 0, 5, .inl (fun _ => 0))), (q16 + 1 + 1, .inl (cs 0, 5, .inl (fun _ => 0))), (q16 + 1 + 2, .inl (cs 0, 5, .inl (fun _ => 0))), (q16 + 1 + 3, .inl (cs 0, 5, .inl (fun _ => 0))), (q16 + 1 + 4, .inl (cs 0, 5, .inl (fun _ => 0))), (q15, .inl (cs 0, 7, .inl (fun _ => 0))), (q14, .inl (cs 0, 7, .inl (fun _ => 0))), (q13, .inl (cs 5, 7, .inr (.inr (.inr (.inr (fun j => if j < 7 then some (q13 + 1 + j) else none)))))), (q13 + 1 + 0, .inl (cs 0, 16, .inl (fun _ => 0))), (q13 + 1 + 1, .inl (cs 0, 16, .inl (fun _ => 0))), (q13 + 1 + 2, .inl (cs 0, 16, .inl (fun _ => 0))), (q13 + 1 + 3, .inl (cs 0, 16, .inl (fun _ => 0))), (q13 + 1 + 4, .inl (cs 0, 16, .inl (fun _ => 0))), (q13 + 1 + 5, .inl (cs 0, 16, .inl (fun _ => 0))), (q13 + 1 + 6, .inl (cs 0, 16, .inl (fun _ => 0))), (q12, .inl (cs 0, 81, .inl (fun _ => 0))), (q11, .inl (cs 0, 16, .inl (fun _ => 0))), (q10, .inl (cs 0, 16, .inl (fun _ => 0))), (q9, .inl (cs 0, 16, .inl (fun _ => 0))), (q8, .inl (cs 0, 192, .inl (fun _ => 0))), (q7, .inl (cs 0, 7, .inl (fun _ => 0))), (q6, .inl (cs 1, 40, .inl (fun _ => 0))), (q5, .inl (cs 1, 40, .inl (fun _ => 0))), (q4, .inl (cs 0, 12, .inl (fun _ => 0))), (q3, .inl (cs 3, 24, .inr (.inl (fun _ => 0)))), (q2, .inl (cs 1, 80, .inl (fun _ => 0))), (q1, .inl (cs 0, 16, .inl (upd (upd (upd (upd (upd (upd (fun _ => 0) 0 3) 1 3) 2 3) 3 3) 4 3) 5 3)))]
set_option maxRecDepth 20000 in
theorem c_X12_init {l0 : Launch} {cs : Nat → ClassId} {G : va_G} : CtN l0 cs G y_X12_init prog_14_method_1_code 2 12 [] 0 41 5359 (res_X12_init cs) := by
  refine ctN_of (by decide) rfl (fun _ => (Nat.le_of_ble_eq_true rfl)) (fun X a hn h fin => ?_)
  show nG G X 0 0 0 [(0, .ref a)] [] [(a, .inr (12, dfl 12))]
  refine n_aload h 0 t_X12_init_0 rfl ?_
  refine n_objInit h (vtb_at 1336 (by decide +kernel) rfl) (vtb_at 172 (by decide +kernel) rfl) (vtb_at 173 (by decide +kernel) rfl) (Nat.zero_le _) t_X12_init_1 ?_
  refine n_aload h 0 t_X12_init_4 rfl ?_
  refine n_bipush (v := 16) h t_X12_init_5 (by decide) ?_
  refine n_newa h 0 (ty := .int) (N' := 16) (a0 := (16, .inl (fun _ => 0))) rfl rfl (fun _ _ z => z) (vtb_at 213 (by decide +kernel) rfl) (fun _ => rfl) (by decide) rfl (Nat.le_of_ble_eq_true rfl) (Nat.le_of_ble_eq_true rfl) (Nat.le_of_ble_eq_true rfl) t_X12_init_7 (fun q1 => ?_)
  refine n_putF (ty := (.array .int)) h 0 (ci := 12) rfl (by decide) (vtb_at 1338 (by decide +kernel) rfl) rfl rfl (by decide) (by decide) (by decide +kernel) rfl rfl (Nat.le_of_ble_eq_true rfl) t_X12_init_9 ?_
  refine n_aload h 0 t_X12_init_12 rfl ?_
  refine n_iconst (v := 3) h t_X12_init_13 (by decide) ?_
  refine n_putN (ty := .int) h 1 (ci := 12) rfl (by decide) (vtb_at 1339 (by decide +kernel) rfl) rfl (by decide +kernel) rfl rfl (Nat.le_of_ble_eq_true rfl) t_X12_init_14 ?_
  refine n_aload h 0 t_X12_init_17 rfl ?_
  refine n_bipush (v := 21) h t_X12_init_18 (by decide) ?_
  refine n_putN (ty := .int) h 2 (ci := 12) rfl (by decide) (vtb_at 1340 (by decide +kernel) rfl) rfl (by decide +kernel) rfl rfl (Nat.le_of_ble_eq_true rfl) t_X12_init_20 ?_
  refine n_aload h 0 t_X12_init_23 rfl ?_
  refine n_bipush (v := 80) h t_X12_init_24 (by decide) ?_
  refine n_newa h 1 (ty := .byte) (N' := 80) (a0 := (80, .inl (fun _ => 0))) rfl rfl (fun _ _ z => z) (vtb_at 685 (by decide +kernel) rfl) (fun _ => rfl) (by decide) rfl (Nat.le_of_ble_eq_true rfl) (Nat.le_of_ble_eq_true rfl) (Nat.le_of_ble_eq_true rfl) t_X12_init_26 (fun q2 => ?_)
  refine n_putF (ty := (.array .byte)) h 3 (ci := 12) rfl (by decide) (vtb_at 1341 (by decide +kernel) rfl) rfl rfl (by decide) (by decide) (by decide +kernel) rfl rfl (Nat.le_of_ble_eq_true rfl) t_X12_init_28 ?_
  refine n_aload h 0 t_X12_init_31 rfl ?_
  refine n_bipush (v := 24) h t_X12_init_32 (by decide) ?_
  refine n_newa h 3 (ty := .long) (N' := 24) (a0 := (24, .inr (.inl (fun _ => 0)))) rfl rfl (fun _ _ z => z) (vtb_at 265 (by decide +kernel) rfl) (fun _ => rfl) (by decide) rfl (Nat.le_of_ble_eq_true rfl) (Nat.le_of_ble_eq_true rfl) (Nat.le_of_ble_eq_true rfl) t_X12_init_34 (fun q3 => ?_)
  refine n_putF (ty := (.array .long)) h 5 (ci := 12) rfl (by decide) (vtb_at 1343 (by decide +kernel) rfl) rfl rfl (by decide) (by decide) (by decide +kernel) rfl rfl (Nat.le_of_ble_eq_true rfl) t_X12_init_36 ?_
  refine n_aload h 0 t_X12_init_39 rfl ?_
  refine n_bipush (v := 12) h t_X12_init_40 (by decide) ?_
  refine n_newa h 0 (ty := .int) (N' := 12) (a0 := (12, .inl (fun _ => 0))) rfl rfl (fun _ _ z => z) (vtb_at 213 (by decide +kernel) rfl) (fun _ => rfl) (by decide) rfl (Nat.le_of_ble_eq_true rfl) (Nat.le_of_ble_eq_true rfl) (Nat.le_of_ble_eq_true rfl) t_X12_init_42 (fun q4 => ?_)
  refine n_putF (ty := (.array .int)) h 13 (ci := 12) rfl (by decide) (vtb_at 1351 (by decide +kernel) rfl) rfl rfl (by decide) (by decide) (by decide +kernel) rfl rfl (Nat.le_of_ble_eq_true rfl) t_X12_init_44 ?_
  refine n_aload h 0 t_X12_init_47 rfl ?_
  refine n_bipush (v := 40) h t_X12_init_48 (by decide) ?_
  refine n_newa h 1 (ty := .byte) (N' := 40) (a0 := (40, .inl (fun _ => 0))) rfl rfl (fun _ _ z => z) (vtb_at 685 (by decide +kernel) rfl) (fun _ => rfl) (by decide) rfl (Nat.le_of_ble_eq_true rfl) (Nat.le_of_ble_eq_true rfl) (Nat.le_of_ble_eq_true rfl) t_X12_init_50 (fun q5 => ?_)
  refine n_putN (ty := (.array .byte)) h 14 (ci := 12) rfl (by decide) (vtb_at 1352 (by decide +kernel) rfl) rfl (by decide +kernel) rfl rfl (Nat.le_of_ble_eq_true rfl) t_X12_init_52 ?_
  refine n_aload h 0 t_X12_init_55 rfl ?_
  refine n_bipush (v := 40) h t_X12_init_56 (by decide) ?_
  refine n_newa h 1 (ty := .byte) (N' := 40) (a0 := (40, .inl (fun _ => 0))) rfl rfl (fun _ _ z => z) (vtb_at 685 (by decide +kernel) rfl) (fun _ => rfl) (by decide) rfl (Nat.le_of_ble_eq_true rfl) (Nat.le_of_ble_eq_true rfl) (Nat.le_of_ble_eq_true rfl) t_X12_init_58 (fun q6 => ?_)
  refine n_putN (ty := (.array .byte)) h 15 (ci := 12) rfl (by decide) (vtb_at 1353 (by decide +kernel) rfl) rfl (by decide +kernel) rfl rfl (Nat.le_of_ble_eq_true rfl) t_X12_init_60 ?_
  refine n_aload h 0 t_X12_init_63 rfl ?_
  refine n_bipush (v := 7) h t_X12_init_64 (by decide) ?_
  refine n_newa h 0 (ty := .int) (N' := 7) (a0 := (7, .inl (fun _ => 0))) rfl rfl (fun _ _ z => z) (vtb_at 213 (by decide +kernel) rfl) (fun _ => rfl) (by decide) rfl (Nat.le_of_ble_eq_true rfl) (Nat.le_of_ble_eq_true rfl) (Nat.le_of_ble_eq_true rfl) t_X12_init_66 (fun q7 => ?_)
  refine n_putF (ty := (.array .int)) h 18 (ci := 12) rfl (by decide) (vtb_at 1356 (by decide +kernel) rfl) rfl rfl (by decide) (by decide) (by decide +kernel) rfl rfl (Nat.le_of_ble_eq_true rfl) t_X12_init_68 ?_
  refine n_aload h 0 t_X12_init_71 rfl ?_
  refine n_sipush (v := 192) h t_X12_init_72 (by decide) ?_
  refine n_newa h 0 (ty := .int) (N' := 192) (a0 := (192, .inl (fun _ => 0))) rfl rfl (fun _ _ z => z) (vtb_at 213 (by decide +kernel) rfl) (fun _ => rfl) (by decide) rfl (Nat.le_of_ble_eq_true rfl) (Nat.le_of_ble_eq_true rfl) (Nat.le_of_ble_eq_true rfl) t_X12_init_75 (fun q8 => ?_)
  refine n_putF (ty := (.array .int)) h 22 (ci := 12) rfl (by decide) (vtb_at 1360 (by decide +kernel) rfl) rfl rfl (by decide) (by decide) (by decide +kernel) rfl rfl (Nat.le_of_ble_eq_true rfl) t_X12_init_77 ?_
  refine n_aload h 0 t_X12_init_80 rfl ?_
  refine n_bipush (v := 16) h t_X12_init_81 (by decide) ?_
  refine n_newa h 0 (ty := .int) (N' := 16) (a0 := (16, .inl (fun _ => 0))) rfl rfl (fun _ _ z => z) (vtb_at 213 (by decide +kernel) rfl) (fun _ => rfl) (by decide) rfl (Nat.le_of_ble_eq_true rfl) (Nat.le_of_ble_eq_true rfl) (Nat.le_of_ble_eq_true rfl) t_X12_init_83 (fun q9 => ?_)
  refine n_putF (ty := (.array .int)) h 24 (ci := 12) rfl (by decide) (vtb_at 1362 (by decide +kernel) rfl) rfl rfl (by decide) (by decide) (by decide +kernel) rfl rfl (Nat.le_of_ble_eq_true rfl) t_X12_init_85 ?_
  refine n_aload h 0 t_X12_init_88 rfl ?_
  refine n_bipush (v := 16) h t_X12_init_89 (by decide) ?_
  refine n_newa h 0 (ty := .int) (N' := 16) (a0 := (16, .inl (fun _ => 0))) rfl rfl (fun _ _ z => z) (vtb_at 213 (by decide +kernel) rfl) (fun _ => rfl) (by decide) rfl (Nat.le_of_ble_eq_true rfl) (Nat.le_of_ble_eq_true rfl) (Nat.le_of_ble_eq_true rfl) t_X12_init_91 (fun q10 => ?_)
  refine n_putF (ty := (.array .int)) h 25 (ci := 12) rfl (by decide) (vtb_at 1363 (by decide +kernel) rfl) rfl rfl (by decide) (by decide) (by decide +kernel) rfl rfl (Nat.le_of_ble_eq_true rfl) t_X12_init_93 ?_
  refine n_aload h 0 t_X12_init_96 rfl ?_
  refine n_bipush (v := 16) h t_X12_init_97 (by decide) ?_
  refine n_newa h 0 (ty := .int) (N' := 16) (a0 := (16, .inl (fun _ => 0))) rfl rfl (fun _ _ z => z) (vtb_at 213 (by decide +kernel) rfl) (fun _ => rfl) (by decide) rfl (Nat.le_of_ble_eq_true rfl) (Nat.le_of_ble_eq_true rfl) (Nat.le_of_ble_eq_true rfl) t_X12_init_99 (fun q11 => ?_)
  refine n_putF (ty := (.array .int)) h 26 (ci := 12) rfl (by decide) (vtb_at 1364 (by decide +kernel) rfl) rfl rfl (by decide) (by decide) (by decide +kernel) rfl rfl (Nat.le_of_ble_eq_true rfl) t_X12_init_101 ?_
  refine n_aload h 0 t_X12_init_104 rfl ?_
  refine n_bipush (v := 81) h t_X12_init_105 (by decide) ?_
  refine n_newa h 0 (ty := .int) (N' := 81) (a0 := (81, .inl (fun _ => 0))) rfl rfl (fun _ _ z => z) (vtb_at 213 (by decide +kernel) rfl) (fun _ => rfl) (by decide) rfl (Nat.le_of_ble_eq_true rfl) (Nat.le_of_ble_eq_true rfl) (Nat.le_of_ble_eq_true rfl) t_X12_init_107 (fun q12 => ?_)
  refine n_putF (ty := (.array .int)) h 27 (ci := 12) rfl (by decide) (vtb_at 1365 (by decide +kernel) rfl) rfl rfl (by decide) (by decide) (by decide +kernel) rfl rfl (Nat.le_of_ble_eq_true rfl) t_X12_init_109 ?_
  refine n_aload h 0 t_X12_init_112 rfl ?_
  refine n_bipush (v := 7) h t_X12_init_113 (by decide) ?_
  refine n_bipush (v := 16) h t_X12_init_115 (by decide) ?_
  refine n_multi (N := 7) (K := 16) h (vtb_at 1337 (by decide +kernel) rfl) (vtb_at 213 (by decide +kernel) rfl) (by decide) (by decide) rfl rfl (Nat.le_of_ble_eq_true rfl) (Nat.le_of_ble_eq_true rfl) (Nat.le_of_ble_eq_true rfl) (Nat.le_of_ble_eq_true rfl) t_X12_init_117 (fun q13 => ?_)
  refine n_putF (ty := (.array (.array .int))) h 29 (ci := 12) rfl (by decide) (vtb_at 1367 (by decide +kernel) rfl) rfl rfl (by decide) (by decide) (by decide +kernel) rfl rfl (Nat.le_of_ble_eq_true rfl) t_X12_init_121 ?_
  refine n_aload h 0 t_X12_init_124 rfl ?_
  refine n_bipush (v := 7) h t_X12_init_125 (by decide) ?_
  refine n_newa h 0 (ty := .int) (N' := 7) (a0 := (7, .inl (fun _ => 0))) rfl rfl (fun _ _ z => z) (vtb_at 213 (by decide +kernel) rfl) (fun _ => rfl) (by decide) rfl (Nat.le_of_ble_eq_true rfl) (Nat.le_of_ble_eq_true rfl) (Nat.le_of_ble_eq_true rfl) t_X12_init_127 (fun q14 => ?_)
  refine n_putF (ty := (.array .int)) h 30 (ci := 12) rfl (by decide) (vtb_at 1368 (by decide +kernel) rfl) rfl rfl (by decide) (by decide) (by decide +kernel) rfl rfl (Nat.le_of_ble_eq_true rfl) t_X12_init_129 ?_
  refine n_aload h 0 t_X12_init_132 rfl ?_
  refine n_bipush (v := 7) h t_X12_init_133 (by decide) ?_
  refine n_newa h 0 (ty := .int) (N' := 7) (a0 := (7, .inl (fun _ => 0))) rfl rfl (fun _ _ z => z) (vtb_at 213 (by decide +kernel) rfl) (fun _ => rfl) (by decide) rfl (Nat.le_of_ble_eq_true rfl) (Nat.le_of_ble_eq_true rfl) (Nat.le_of_ble_eq_true rfl) t_X12_init_135 (fun q15 => ?_)
  refine n_putF (ty := (.array .int)) h 31 (ci := 12) rfl (by decide) (vtb_at 1369 (by decide +kernel) rfl) rfl rfl (by decide) (by decide) (by decide +kernel) rfl rfl (Nat.le_of_ble_eq_true rfl) t_X12_init_137 ?_
  refine n_aload h 0 t_X12_init_140 rfl ?_
  refine n_iconst (v := 5) h t_X12_init_141 (by decide) ?_
  refine n_iconst (v := 5) h t_X12_init_142 (by decide) ?_
  refine n_multi (N := 5) (K := 5) h (vtb_at 1337 (by decide +kernel) rfl) (vtb_at 213 (by decide +kernel) rfl) (by decide) (by decide) rfl rfl (Nat.le_of_ble_eq_true rfl) (Nat.le_of_ble_eq_true rfl) (Nat.le_of_ble_eq_true rfl) (Nat.le_of_ble_eq_true rfl) t_X12_init_143 (fun q16 => ?_)
  refine n_putF (ty := (.array (.array .int))) h 34 (ci := 12) rfl (by decide) (vtb_at 1372 (by decide +kernel) rfl) rfl rfl (by decide) (by decide) (by decide +kernel) rfl rfl (Nat.le_of_ble_eq_true rfl) t_X12_init_147 ?_
  refine n_aload h 0 t_X12_init_150 rfl ?_
  refine n_iconst (v := 5) h t_X12_init_151 (by decide) ?_
  refine n_newa h 0 (ty := .int) (N' := 5) (a0 := (5, .inl (fun _ => 0))) rfl rfl (fun _ _ z => z) (vtb_at 213 (by decide +kernel) rfl) (fun _ => rfl) (by decide) rfl (Nat.le_of_ble_eq_true rfl) (Nat.le_of_ble_eq_true rfl) (Nat.le_of_ble_eq_true rfl) t_X12_init_152 (fun q17 => ?_)
  refine n_putF (ty := (.array .int)) h 35 (ci := 12) rfl (by decide) (vtb_at 1373 (by decide +kernel) rfl) rfl rfl (by decide) (by decide) (by decide +kernel) rfl rfl (Nat.le_of_ble_eq_true rfl) t_X12_init_154 ?_
  refine n_aload h 0 t_X12_init_157 rfl ?_
  refine n_sipush (v := 3456) h t_X12_init_158 (by decide) ?_
  refine n_newa h 0 (ty := .int) (N' := 3456) (a0 := (3456, .inl (fun _ => 0))) rfl rfl (fun _ _ z => z) (vtb_at 213 (by decide +kernel) rfl) (fun _ => rfl) (by decide) rfl (Nat.le_of_ble_eq_true rfl) (Nat.le_of_ble_eq_true rfl) (Nat.le_of_ble_eq_true rfl) t_X12_init_161 (fun q18 => ?_)
  refine n_putF (ty := (.array .int)) h 37 (ci := 12) rfl (by decide) (vtb_at 1375 (by decide +kernel) rfl) rfl rfl (by decide) (by decide) (by decide +kernel) rfl rfl (Nat.le_of_ble_eq_true rfl) t_X12_init_163 ?_
  refine n_aload h 0 t_X12_init_166 rfl ?_
  refine n_sipush (v := 976) h t_X12_init_167 (by decide) ?_
  refine n_newa h 0 (ty := .int) (N' := 976) (a0 := (976, .inl (fun _ => 0))) rfl rfl (fun _ _ z => z) (vtb_at 213 (by decide +kernel) rfl) (fun _ => rfl) (by decide) rfl (Nat.le_of_ble_eq_true rfl) (Nat.le_of_ble_eq_true rfl) (Nat.le_of_ble_eq_true rfl) t_X12_init_170 (fun q19 => ?_)
  refine n_putF (ty := (.array .int)) h 39 (ci := 12) rfl (by decide) (vtb_at 1377 (by decide +kernel) rfl) rfl rfl (by decide) (by decide) (by decide +kernel) rfl rfl (Nat.le_of_ble_eq_true rfl) t_X12_init_172 ?_
  refine n_aload h 0 t_X12_init_175 rfl ?_
  refine n_bipush (v := 24) h t_X12_init_176 (by decide) ?_
  refine n_newa h 0 (ty := .int) (N' := 24) (a0 := (24, .inl (fun _ => 0))) rfl rfl (fun _ _ z => z) (vtb_at 213 (by decide +kernel) rfl) (fun _ => rfl) (by decide) rfl (Nat.le_of_ble_eq_true rfl) (Nat.le_of_ble_eq_true rfl) (Nat.le_of_ble_eq_true rfl) t_X12_init_178 (fun q20 => ?_)
  refine n_putF (ty := (.array .int)) h 40 (ci := 12) rfl (by decide) (vtb_at 1378 (by decide +kernel) rfl) rfl rfl (by decide) (by decide) (by decide +kernel) rfl rfl (Nat.le_of_ble_eq_true rfl) t_X12_init_180 ?_
  refine n_aload h 0 t_X12_init_183 rfl ?_
  refine n_bipush (v := 12) h t_X12_init_184 (by decide) ?_
  refine n_newa h 0 (ty := .int) (N' := 12) (a0 := (12, .inl (fun _ => 0))) rfl rfl (fun _ _ z => z) (vtb_at 213 (by decide +kernel) rfl) (fun _ => rfl) (by decide) rfl (Nat.le_of_ble_eq_true rfl) (Nat.le_of_ble_eq_true rfl) (Nat.le_of_ble_eq_true rfl) t_X12_init_186 (fun q21 => ?_)
  refine n_putF (ty := (.array .int)) h 41 (ci := 12) rfl (by decide) (vtb_at 1379 (by decide +kernel) rfl) rfl rfl (by decide) (by decide) (by decide +kernel) rfl rfl (Nat.le_of_ble_eq_true rfl) t_X12_init_188 ?_
  refine n_aload h 0 t_X12_init_191 rfl ?_
  refine n_bipush (v := 12) h t_X12_init_192 (by decide) ?_
  refine n_newa h 0 (ty := .int) (N' := 12) (a0 := (12, .inl (fun _ => 0))) rfl rfl (fun _ _ z => z) (vtb_at 213 (by decide +kernel) rfl) (fun _ => rfl) (by decide) rfl (Nat.le_of_ble_eq_true rfl) (Nat.le_of_ble_eq_true rfl) (Nat.le_of_ble_eq_true rfl) t_X12_init_194 (fun q22 => ?_)
  refine n_putF (ty := (.array .int)) h 42 (ci := 12) rfl (by decide) (vtb_at 1380 (by decide +kernel) rfl) rfl rfl (by decide) (by decide) (by decide +kernel) rfl rfl (Nat.le_of_ble_eq_true rfl) t_X12_init_196 ?_
  refine n_aload h 0 t_X12_init_199 rfl ?_
  refine n_bipush (v := 10) h t_X12_init_200 (by decide) ?_
  refine n_newa h 0 (ty := .int) (N' := 10) (a0 := (10, .inl (fun _ => 0))) rfl rfl (fun _ _ z => z) (vtb_at 213 (by decide +kernel) rfl) (fun _ => rfl) (by decide) rfl (Nat.le_of_ble_eq_true rfl) (Nat.le_of_ble_eq_true rfl) (Nat.le_of_ble_eq_true rfl) t_X12_init_202 (fun q23 => ?_)
  refine n_putF (ty := (.array .int)) h 44 (ci := 12) rfl (by decide) (vtb_at 1382 (by decide +kernel) rfl) rfl rfl (by decide) (by decide) (by decide +kernel) rfl rfl (Nat.le_of_ble_eq_true rfl) t_X12_init_204 ?_
  refine n_aload h 0 t_X12_init_207 rfl ?_
  refine n_bipush (v := 10) h t_X12_init_208 (by decide) ?_
  refine n_newa h 0 (ty := .int) (N' := 10) (a0 := (10, .inl (fun _ => 0))) rfl rfl (fun _ _ z => z) (vtb_at 213 (by decide +kernel) rfl) (fun _ => rfl) (by decide) rfl (Nat.le_of_ble_eq_true rfl) (Nat.le_of_ble_eq_true rfl) (Nat.le_of_ble_eq_true rfl) t_X12_init_210 (fun q24 => ?_)
  refine n_putF (ty := (.array .int)) h 45 (ci := 12) rfl (by decide) (vtb_at 1383 (by decide +kernel) rfl) rfl rfl (by decide) (by decide) (by decide +kernel) rfl rfl (Nat.le_of_ble_eq_true rfl) t_X12_init_212 ?_
  refine n_aload h 0 t_X12_init_215 rfl ?_
  refine n_bipush (v := 64) h t_X12_init_216 (by decide) ?_
  refine n_newa h 2 (ty := .boolean) (N' := 64) (a0 := (64, .inl (fun _ => 0))) rfl rfl (fun _ _ z => z) (vtb_at 234 (by decide +kernel) rfl) (fun _ => rfl) (by decide) rfl (Nat.le_of_ble_eq_true rfl) (Nat.le_of_ble_eq_true rfl) (Nat.le_of_ble_eq_true rfl) t_X12_init_218 (fun q25 => ?_)
  refine n_putF (ty := (.array .boolean)) h 47 (ci := 12) rfl (by decide) (vtb_at 1385 (by decide +kernel) rfl) rfl rfl (by decide) (by decide) (by decide +kernel) rfl rfl (Nat.le_of_ble_eq_true rfl) t_X12_init_220 ?_
  refine n_aload h 0 t_X12_init_223 rfl ?_
  refine n_bipush (v := 51) h t_X12_init_224 (by decide) ?_
  refine n_newa h 0 (ty := .int) (N' := 51) (a0 := (51, .inl (fun _ => 0))) rfl rfl (fun _ _ z => z) (vtb_at 213 (by decide +kernel) rfl) (fun _ => rfl) (by decide) rfl (Nat.le_of_ble_eq_true rfl) (Nat.le_of_ble_eq_true rfl) (Nat.le_of_ble_eq_true rfl) t_X12_init_226 (fun q26 => ?_)
  refine n_putF (ty := (.array .int)) h 48 (ci := 12) rfl (by decide) (vtb_at 1386 (by decide +kernel) rfl) rfl rfl (by decide) (by decide) (by decide +kernel) rfl rfl (Nat.le_of_ble_eq_true rfl) t_X12_init_228 ?_
  refine n_aload h 0 t_X12_init_231 rfl ?_
  refine n_bipush (v := 32) h t_X12_init_232 (by decide) ?_
  refine n_newa h 0 (ty := .int) (N' := 32) (a0 := (32, .inl (fun _ => 0))) rfl rfl (fun _ _ z => z) (vtb_at 213 (by decide +kernel) rfl) (fun _ => rfl) (by decide) rfl (Nat.le_of_ble_eq_true rfl) (Nat.le_of_ble_eq_true rfl) (Nat.le_of_ble_eq_true rfl) t_X12_init_234 (fun q27 => ?_)
  refine n_putF (ty := (.array .int)) h 52 (ci := 12) rfl (by decide) (vtb_at 1390 (by decide +kernel) rfl) rfl rfl (by decide) (by decide) (by decide +kernel) rfl rfl (Nat.le_of_ble_eq_true rfl) t_X12_init_236 ?_
  refine n_aload h 0 t_X12_init_239 rfl ?_
  refine n_iconst (v := 2) h t_X12_init_240 (by decide) ?_
  refine n_newa h 2 (ty := .boolean) (N' := 2) (a0 := (2, .inl (fun _ => 0))) rfl rfl (fun _ _ z => z) (vtb_at 234 (by decide +kernel) rfl) (fun _ => rfl) (by decide) rfl (Nat.le_of_ble_eq_true rfl) (Nat.le_of_ble_eq_true rfl) (Nat.le_of_ble_eq_true rfl) t_X12_init_241 (fun q28 => ?_)
  refine n_putF (ty := (.array .boolean)) h 53 (ci := 12) rfl (by decide) (vtb_at 1391 (by decide +kernel) rfl) rfl rfl (by decide) (by decide) (by decide +kernel) rfl rfl (Nat.le_of_ble_eq_true rfl) t_X12_init_243 ?_
  refine n_aload h 0 t_X12_init_246 rfl ?_
  refine n_iconst (v := 2) h t_X12_init_247 (by decide) ?_
  refine n_newa h 0 (ty := .int) (N' := 2) (a0 := (2, .inl (fun _ => 0))) rfl rfl (fun _ _ z => z) (vtb_at 213 (by decide +kernel) rfl) (fun _ => rfl) (by decide) rfl (Nat.le_of_ble_eq_true rfl) (Nat.le_of_ble_eq_true rfl) (Nat.le_of_ble_eq_true rfl) t_X12_init_248 (fun q29 => ?_)
  refine n_putF (ty := (.array .int)) h 54 (ci := 12) rfl (by decide) (vtb_at 1392 (by decide +kernel) rfl) rfl rfl (by decide) (by decide) (by decide +kernel) rfl rfl (Nat.le_of_ble_eq_true rfl) t_X12_init_250 ?_
  refine n_iconst (v := 0) h t_X12_init_253 (by decide) ?_
  refine n_istore h hn t_X12_init_254 rfl (by decide) rfl ?_
  refine n_iload h 0 t_X12_init_255 rfl ?_
  refine n_bipush (v := 6) h t_X12_init_256 (by decide) ?_
  refine n_ge (tgt := 274) h t_X12_init_258 (by decide) (fun q => absurd q (by decide)) (fun _ => ?_)
  refine n_aload h 1 t_X12_init_261 rfl ?_
  refine n_get (ci := 12) h 0 0 rfl rfl (by decide) (vtb_at 1338 (by decide +kernel) rfl) rfl t_X12_init_262 ?_
  refine n_iload h 0 t_X12_init_265 rfl ?_
  refine n_iconst (v := 3) h t_X12_init_266 (by decide) ?_
  refine n_iast (ws' := [(a, .inr (12, [.ref q1, .int 3, .int 21, .ref q2, .int 0, .ref q3, .int 0, .int 0, .null, .int 0, .int 0, .int 0, .int 0, .ref q4, .ref q5, .ref q6, .int 0, .int 0, .ref q7, .int 0, .int 0, .int 0, .ref q8, .int 0, .ref q9, .ref q10, .ref q11, .ref q12, .int 0, .ref q13, .ref q14, .ref q15, .int 0, .int 0, .ref q16, .ref q17, .int 0, .ref q18, .int 0, .ref q19, .ref q20, .ref q21, .ref q22, .int 0, .ref q23, .ref q24, .int 0, .ref q25, .ref q26, .int 0, .int 0, .int 0, .ref q27, .ref q28, .ref q29])), (q29, .inl (cs 0, 2, .inl (fun _ => 0))), (q28, .inl (cs 2, 2, .inl (fun _ => 0))), (q27, .inl (cs 0, 32, .inl (fun _ => 0))), (q26, .inl (cs 0, 51, .inl (fun _ => 0))), (q25, .inl (cs 2, 64, .inl (fun _ => 0))), (q24, .inl (cs 0, 10, .inl (fun _ => 0))), (q23, .inl (cs 0, 10, .inl (fun _ => 0))), (q22, .inl (cs 0, 12, .inl (fun _ => 0))), (q21, .inl (cs 0, 12, .inl (fun _ => 0))), (q20, .inl (cs 0, 24, .inl (fun _ => 0))), (q19, .inl (cs 0, 976, .inl (fun _ => 0))), (q18, .inl (cs 0, 3456, .inl (fun _ => 0))), (q17, .inl (cs 0, 5, .inl (fun _ => 0))), (q16, .inl (cs 5, 5, .inr (.inr (.inr (.inr (fun j => if j < 5 then some (q16 + 1 + j) else none)))))), (q16 + 1 + 0, .inl (cs 0, 5, .inl (fun _ => 0))), (q16 + 1 + 1, .inl (cs 0, 5, .inl (fun _ => 0))), (q16 + 1 + 2, .inl (cs 0, 5, .inl (fun _ => 0))), (q16 + 1 + 3, .inl (cs 0, 5, .inl (fun _ => 0))), (q16 + 1 + 4, .inl (cs 0, 5, .inl (fun _ => 0))), (q15, .inl (cs 0, 7, .inl (fun _ => 0))), (q14, .inl (cs 0, 7, .inl (fun _ => 0))), (q13, .inl (cs 5, 7, .inr (.inr (.inr (.inr (fun j => if j < 7 then some (q13 + 1 + j) else none)))))), (q13 + 1 + 0, .inl (cs 0, 16, .inl (fun _ => 0))), (q13 + 1 + 1, .inl (cs 0, 16, .inl (fun _ => 0))), (q13 + 1 + 2, .inl (cs 0, 16, .inl (fun _ => 0))), (q13 + 1 + 3, .inl (cs 0, 16, .inl (fun _ => 0))), (q13 + 1 + 4, .inl (cs 0, 16, .inl (fun _ => 0))), (q13 + 1 + 5, .inl (cs 0, 16, .inl (fun _ => 0))), (q13 + 1 + 6, .inl (cs 0, 16, .inl (fun _ => 0))), (q12, .inl (cs 0, 81, .inl (fun _ => 0))), (q11, .inl (cs 0, 16, .inl (fun _ => 0))), (q10, .inl (cs 0, 16, .inl (fun _ => 0))), (q9, .inl (cs 0, 16, .inl (fun _ => 0))), (q8, .inl (cs 0, 192, .inl (fun _ => 0))), (q7, .inl (cs 0, 7, .inl (fun _ => 0))), (q6, .inl (cs 1, 40, .inl (fun _ => 0))), (q5, .inl (cs 1, 40, .inl (fun _ => 0))), (q4, .inl (cs 0, 12, .inl (fun _ => 0))), (q3, .inl (cs 3, 24, .inr (.inl (fun _ => 0)))), (q2, .inl (cs 1, 80, .inl (fun _ => 0))), (q1, .inl (cs 0, 16, .inl (upd (fun _ => 0) 0 3)))]) h 41 rfl (by decide) rfl t_X12_init_267 ?_
  refine n_iinc (k := 0) (v := 1) h hn t_X12_init_268 rfl (by decide) (by decide) rfl ?_
  refine n_goto (tgt := 255) h t_X12_init_271 (by decide) ?_
  refine n_iload h 0 t_X12_init_255 rfl ?_
  refine n_bipush (v := 6) h t_X12_init_256 (by decide) ?_
  refine n_ge (tgt := 274) h t_X12_init_258 (by decide) (fun q => absurd q (by decide)) (fun _ => ?_)
  refine n_aload h 1 t_X12_init_261 rfl ?_
  refine n_get (ci := 12) h 0 0 rfl rfl (by decide) (vtb_at 1338 (by decide +kernel) rfl) rfl t_X12_init_262 ?_
  refine n_iload h 0 t_X12_init_265 rfl ?_
  refine n_iconst (v := 3) h t_X12_init_266 (by decide) ?_
  refine n_iast (ws' := [(a, .inr (12, [.ref q1, .int 3, .int 21, .ref q2, .int 0, .ref q3, .int 0, .int 0, .null, .int 0, .int 0, .int 0, .int 0, .ref q4, .ref q5, .ref q6, .int 0, .int 0, .ref q7, .int 0, .int 0, .int 0, .ref q8, .int 0, .ref q9, .ref q10, .ref q11, .ref q12, .int 0, .ref q13, .ref q14, .ref q15, .int 0, .int 0, .ref q16, .ref q17, .int 0, .ref q18, .int 0, .ref q19, .ref q20, .ref q21, .ref q22, .int 0, .ref q23, .ref q24, .int 0, .ref q25, .ref q26, .int 0, .int 0, .int 0, .ref q27, .ref q28, .ref q29])), (q29, .inl (cs 0, 2, .inl (fun _ => 0))), (q28, .inl (cs 2, 2, .inl (fun _ => 0))), (q27, .inl (cs 0, 32, .inl (fun _ => 0))), (q26, .inl (cs 0, 51, .inl (fun _ => 0))), (q25, .inl (cs 2, 64, .inl (fun _ => 0))), (q24, .inl (cs 0, 10, .inl (fun _ => 0))), (q23, .inl (cs 0, 10, .inl (fun _ => 0))), (q22, .inl (cs 0, 12, .inl (fun _ => 0))), (q21, .inl (cs 0, 12, .inl (fun _ => 0))), (q20, .inl (cs 0, 24, .inl (fun _ => 0))), (q19, .inl (cs 0, 976, .inl (fun _ => 0))), (q18, .inl (cs 0, 3456, .inl (fun _ => 0))), (q17, .inl (cs 0, 5, .inl (fun _ => 0))), (q16, .inl (cs 5, 5, .inr (.inr (.inr (.inr (fun j => if j < 5 then some (q16 + 1 + j) else none)))))), (q16 + 1 + 0, .inl (cs 0, 5, .inl (fun _ => 0))), (q16 + 1 + 1, .inl (cs 0, 5, .inl (fun _ => 0))), (q16 + 1 + 2, .inl (cs 0, 5, .inl (fun _ => 0))), (q16 + 1 + 3, .inl (cs 0, 5, .inl (fun _ => 0))), (q16 + 1 + 4, .inl (cs 0, 5, .inl (fun _ => 0))), (q15, .inl (cs 0, 7, .inl (fun _ => 0))), (q14, .inl (cs 0, 7, .inl (fun _ => 0))), (q13, .inl (cs 5, 7, .inr (.inr (.inr (.inr (fun j => if j < 7 then some (q13 + 1 + j) else none)))))), (q13 + 1 + 0, .inl (cs 0, 16, .inl (fun _ => 0))), (q13 + 1 + 1, .inl (cs 0, 16, .inl (fun _ => 0))), (q13 + 1 + 2, .inl (cs 0, 16, .inl (fun _ => 0))), (q13 + 1 + 3, .inl (cs 0, 16, .inl (fun _ => 0))), (q13 + 1 + 4, .inl (cs 0, 16, .inl (fun _ => 0))), (q13 + 1 + 5, .inl (cs 0, 16, .inl (fun _ => 0))), (q13 + 1 + 6, .inl (cs 0, 16, .inl (fun _ => 0))), (q12, .inl (cs 0, 81, .inl (fun _ => 0))), (q11, .inl (cs 0, 16, .inl (fun _ => 0))), (q10, .inl (cs 0, 16, .inl (fun _ => 0))), (q9, .inl (cs 0, 16, .inl (fun _ => 0))), (q8, .inl (cs 0, 192, .inl (fun _ => 0))), (q7, .inl (cs 0, 7, .inl (fun _ => 0))), (q6, .inl (cs 1, 40, .inl (fun _ => 0))), (q5, .inl (cs 1, 40, .inl (fun _ => 0))), (q4, .inl (cs 0, 12, .inl (fun _ => 0))), (q3, .inl (cs 3, 24, .inr (.inl (fun _ => 0)))), (q2, .inl (cs 1, 80, .inl (fun _ => 0))), (q1, .inl (cs 0, 16, .inl (upd (upd (fun _ => 0) 0 3) 1 3)))]) h 41 rfl (by decide) rfl t_X12_init_267 ?_
  refine n_iinc (k := 0) (v := 2) h hn t_X12_init_268 rfl (by decide) (by decide) rfl ?_
  refine n_goto (tgt := 255) h t_X12_init_271 (by decide) ?_
  refine n_iload h 0 t_X12_init_255 rfl ?_
  refine n_bipush (v := 6) h t_X12_init_256 (by decide) ?_
  refine n_ge (tgt := 274) h t_X12_init_258 (by decide) (fun q => absurd q (by decide)) (fun _ => ?_)
  refine n_aload h 1 t_X12_init_261 rfl ?_
  refine n_get (ci := 12) h 0 0 rfl rfl (by decide) (vtb_at 1338 (by decide +kernel) rfl) rfl t_X12_init_262 ?_
  refine n_iload h 0 t_X12_init_265 rfl ?_
  refine n_iconst (v := 3) h t_X12_init_266 (by decide) ?_
  refine n_iast (ws' := [(a, .inr (12, [.ref q1, .int 3, .int 21, .ref q2, .int 0, .ref q3, .int 0, .int 0, .null, .int 0, .int 0, .int 0, .int 0, .ref q4, .ref q5, .ref q6, .int 0, .int 0, .ref q7, .int 0, .int 0, .int 0, .ref q8, .int 0, .ref q9, .ref q10, .ref q11, .ref q12, .int 0, .ref q13, .ref q14, .ref q15, .int 0, .int 0, .ref q16, .ref q17, .int 0, .ref q18, .int 0, .ref q19, .ref q20, .ref q21, .ref q22, .int 0, .ref q23, .ref q24, .int 0, .ref q25, .ref q26, .int 0, .int 0, .int 0, .ref q27, .ref q28, .ref q29])), (q29, .inl (cs 0, 2, .inl (fun _ => 0))), (q28, .inl (cs 2, 2, .inl (fun _ => 0))), (q27, .inl (cs 0, 32, .inl (fun _ => 0))), (q26, .inl (cs 0, 51, .inl (fun _ => 0))), (q25, .inl (cs 2, 64, .inl (fun _ => 0))), (q24, .inl (cs 0, 10, .inl (fun _ => 0))), (q23, .inl (cs 0, 10, .inl (fun _ => 0))), (q22, .inl (cs 0, 12, .inl (fun _ => 0))), (q21, .inl (cs 0, 12, .inl (fun _ => 0))), (q20, .inl (cs 0, 24, .inl (fun _ => 0))), (q19, .inl (cs 0, 976, .inl (fun _ => 0))), (q18, .inl (cs 0, 3456, .inl (fun _ => 0))), (q17, .inl (cs 0, 5, .inl (fun _ => 0))), (q16, .inl (cs 5, 5, .inr (.inr (.inr (.inr (fun j => if j < 5 then some (q16 + 1 + j) else none)))))), (q16 + 1 + 0, .inl (cs 0, 5, .inl (fun _ => 0))), (q16 + 1 + 1, .inl (cs 0, 5, .inl (fun _ => 0))), (q16 + 1 + 2, .inl (cs 0, 5, .inl (fun _ => 0))), (q16 + 1 + 3, .inl (cs 0, 5, .inl (fun _ => 0))), (q16 + 1 + 4, .inl (cs 0, 5, .inl (fun _ => 0))), (q15, .inl (cs 0, 7, .inl (fun _ => 0))), (q14, .inl (cs 0, 7, .inl (fun _ => 0))), (q13, .inl (cs 5, 7, .inr (.inr (.inr (.inr (fun j => if j < 7 then some (q13 + 1 + j) else none)))))), (q13 + 1 + 0, .inl (cs 0, 16, .inl (fun _ => 0))), (q13 + 1 + 1, .inl (cs 0, 16, .inl (fun _ => 0))), (q13 + 1 + 2, .inl (cs 0, 16, .inl (fun _ => 0))), (q13 + 1 + 3, .inl (cs 0, 16, .inl (fun _ => 0))), (q13 + 1 + 4, .inl (cs 0, 16, .inl (fun _ => 0))), (q13 + 1 + 5, .inl (cs 0, 16, .inl (fun _ => 0))), (q13 + 1 + 6, .inl (cs 0, 16, .inl (fun _ => 0))), (q12, .inl (cs 0, 81, .inl (fun _ => 0))), (q11, .inl (cs 0, 16, .inl (fun _ => 0))), (q10, .inl (cs 0, 16, .inl (fun _ => 0))), (q9, .inl (cs 0, 16, .inl (fun _ => 0))), (q8, .inl (cs 0, 192, .inl (fun _ => 0))), (q7, .inl (cs 0, 7, .inl (fun _ => 0))), (q6, .inl (cs 1, 40, .inl (fun _ => 0))), (q5, .inl (cs 1, 40, .inl (fun _ => 0))), (q4, .inl (cs 0, 12, .inl (fun _ => 0))), (q3, .inl (cs 3, 24, .inr (.inl (fun _ => 0)))), (q2, .inl (cs 1, 80, .inl (fun _ => 0))), (q1, .inl (cs 0, 16, .inl (upd (upd (upd (fun _ => 0) 0 3) 1 3) 2 3)))]) h 41 rfl (by decide) rfl t_X12_init_267 ?_
  refine n_iinc (k := 0) (v := 3) h hn t_X12_init_268 rfl (by decide) (by decide) rfl ?_
  refine n_goto (tgt := 255) h t_X12_init_271 (by decide) ?_
  refine n_iload h 0 t_X12_init_255 rfl ?_
  refine n_bipush (v := 6) h t_X12_init_256 (by decide) ?_
  refine n_ge (tgt := 274) h t_X12_init_258 (by decide) (fun q => absurd q (by decide)) (fun _ => ?_)
  refine n_aload h 1 t_X12_init_261 rfl ?_
  refine n_get (ci := 12) h 0 0 rfl rfl (by decide) (vtb_at 1338 (by decide +kernel) rfl) rfl t_X12_init_262 ?_
  refine n_iload h 0 t_X12_init_265 rfl ?_
  refine n_iconst (v := 3) h t_X12_init_266 (by decide) ?_
  refine n_iast (ws' := [(a, .inr (12, [.ref q1, .int 3, .int 21, .ref q2, .int 0, .ref q3, .int 0, .int 0, .null, .int 0, .int 0, .int 0, .int 0, .ref q4, .ref q5, .ref q6, .int 0, .int 0, .ref q7, .int 0, .int 0, .int 0, .ref q8, .int 0, .ref q9, .ref q10, .ref q11, .ref q12, .int 0, .ref q13, .ref q14, .ref q15, .int 0, .int 0, .ref q16, .ref q17, .int 0, .ref q18, .int 0, .ref q19, .ref q20, .ref q21, .ref q22, .int 0, .ref q23, .ref q24, .int 0, .ref q25, .ref q26, .int 0, .int 0, .int 0, .ref q27, .ref q28, .ref q29])), (q29, .inl (cs 0, 2, .inl (fun _ => 0))), (q28, .inl (cs 2, 2, .inl (fun _ => 0))), (q27, .inl (cs 0, 32, .inl (fun _ => 0))), (q26, .inl (cs 0, 51, .inl (fun _ => 0))), (q25, .inl (cs 2, 64, .inl (fun _ => 0))), (q24, .inl (cs 0, 10, .inl (fun _ => 0))), (q23, .inl (cs 0, 10, .inl (fun _ => 0))), (q22, .inl (cs 0, 12, .inl (fun _ => 0))), (q21, .inl (cs 0, 12, .inl (fun _ => 0))), (q20, .inl (cs 0, 24, .inl (fun _ => 0))), (q19, .inl (cs 0, 976, .inl (fun _ => 0))), (q18, .inl (cs 0, 3456, .inl (fun _ => 0))), (q17, .inl (cs 0, 5, .inl (fun _ => 0))), (q16, .inl (cs 5, 5, .inr (.inr (.inr (.inr (fun j => if j < 5 then some (q16 + 1 + j) else none)))))), (q16 + 1 + 0, .inl (cs 0, 5, .inl (fun _ => 0))), (q16 + 1 + 1, .inl (cs 0, 5, .inl (fun _ => 0))), (q16 + 1 + 2, .inl (cs 0, 5, .inl (fun _ => 0))), (q16 + 1 + 3, .inl (cs 0, 5, .inl (fun _ => 0))), (q16 + 1 + 4, .inl (cs 0, 5, .inl (fun _ => 0))), (q15, .inl (cs 0, 7, .inl (fun _ => 0))), (q14, .inl (cs 0, 7, .inl (fun _ => 0))), (q13, .inl (cs 5, 7, .inr (.inr (.inr (.inr (fun j => if j < 7 then some (q13 + 1 + j) else none)))))), (q13 + 1 + 0, .inl (cs 0, 16, .inl (fun _ => 0))), (q13 + 1 + 1, .inl (cs 0, 16, .inl (fun _ => 0))), (q13 + 1 + 2, .inl (cs 0, 16, .inl (fun _ => 0))), (q13 + 1 + 3, .inl (cs 0, 16, .inl (fun _ => 0))), (q13 + 1 + 4, .inl (cs 0, 16, .inl (fun _ => 0))), (q13 + 1 + 5, .inl (cs 0, 16, .inl (fun _ => 0))), (q13 + 1 + 6, .inl (cs 0, 16, .inl (fun _ => 0))), (q12, .inl (cs 0, 81, .inl (fun _ => 0))), (q11, .inl (cs 0, 16, .inl (fun _ => 0))), (q10, .inl (cs 0, 16, .inl (fun _ => 0))), (q9, .inl (cs 0, 16, .inl (fun _ => 0))), (q8, .inl (cs 0, 192, .inl (fun _ => 0))), (q7, .inl (cs 0, 7, .inl (fun _ => 0))), (q6, .inl (cs 1, 40, .inl (fun _ => 0))), (q5, .inl (cs 1, 40, .inl (fun _ => 0))), (q4, .inl (cs 0, 12, .inl (fun _ => 0))), (q3, .inl (cs 3, 24, .inr (.inl (fun _ => 0)))), (q2, .inl (cs 1, 80, .inl (fun _ => 0))), (q1, .inl (cs 0, 16, .inl (upd (upd (upd (upd (fun _ => 0) 0 3) 1 3) 2 3) 3 3)))]) h 41 rfl (by decide) rfl t_X12_init_267 ?_
  refine n_iinc (k := 0) (v := 4) h hn t_X12_init_268 rfl (by decide) (by decide) rfl ?_
  refine n_goto (tgt := 255) h t_X12_init_271 (by decide) ?_
  refine n_iload h 0 t_X12_init_255 rfl ?_
  refine n_bipush (v := 6) h t_X12_init_256 (by decide) ?_
  refine n_ge (tgt := 274) h t_X12_init_258 (by decide) (fun q => absurd q (by decide)) (fun _ => ?_)
  refine n_aload h 1 t_X12_init_261 rfl ?_
  refine n_get (ci := 12) h 0 0 rfl rfl (by decide) (vtb_at 1338 (by decide +kernel) rfl) rfl t_X12_init_262 ?_
  refine n_iload h 0 t_X12_init_265 rfl ?_
  refine n_iconst (v := 3) h t_X12_init_266 (by decide) ?_
  refine n_iast (ws' := [(a, .inr (12, [.ref q1, .int 3, .int 21, .ref q2, .int 0, .ref q3, .int 0, .int 0, .null, .int 0, .int 0, .int 0, .int 0, .ref q4, .ref q5, .ref q6, .int 0, .int 0, .ref q7, .int 0, .int 0, .int 0, .ref q8, .int 0, .ref q9, .ref q10, .ref q11, .ref q12, .int 0, .ref q13, .ref q14, .ref q15, .int 0, .int 0, .ref q16, .ref q17, .int 0, .ref q18, .int 0, .ref q19, .ref q20, .ref q21, .ref q22, .int 0, .ref q23, .ref q24, .int 0, .ref q25, .ref q26, .int 0, .int 0, .int 0, .ref q27, .ref q28, .ref q29])), (q29, .inl (cs 0, 2, .inl (fun _ => 0))), (q28, .inl (cs 2, 2, .inl (fun _ => 0))), (q27, .inl (cs 0, 32, .inl (fun _ => 0))), (q26, .inl (cs 0, 51, .inl (fun _ => 0))), (q25, .inl (cs 2, 64, .inl (fun _ => 0))), (q24, .inl (cs 0, 10, .inl (fun _ => 0))), (q23, .inl (cs 0, 10, .inl (fun _ => 0))), (q22, .inl (cs 0, 12, .inl (fun _ => 0))), (q21, .inl (cs 0, 12, .inl (fun _ => 0))), (q20, .inl (cs 0, 24, .inl (fun _ => 0))), (q19, .inl (cs 0, 976, .inl (fun _ => 0))), (q18, .inl (cs 0, 3456, .inl (fun _ => 0))), (q17, .inl (cs 0, 5, .inl (fun _ => 0))), (q16, .inl (cs 5, 5, .inr (.inr (.inr (.inr (fun j => if j < 5 then some (q16 + 1 + j) else none)))))), (q16 + 1 + 0, .inl (cs 0, 5, .inl (fun _ => 0))), (q16 + 1 + 1, .inl (cs 0, 5, .inl (fun _ => 0))), (q16 + 1 + 2, .inl (cs 0, 5, .inl (fun _ => 0))), (q16 + 1 + 3, .inl (cs 0, 5, .inl (fun _ => 0))), (q16 + 1 + 4, .inl (cs 0, 5, .inl (fun _ => 0))), (q15, .inl (cs 0, 7, .inl (fun _ => 0))), (q14, .inl (cs 0, 7, .inl (fun _ => 0))), (q13, .inl (cs 5, 7, .inr (.inr (.inr (.inr (fun j => if j < 7 then some (q13 + 1 + j) else none)))))), (q13 + 1 + 0, .inl (cs 0, 16, .inl (fun _ => 0))), (q13 + 1 + 1, .inl (cs 0, 16, .inl (fun _ => 0))), (q13 + 1 + 2, .inl (cs 0, 16, .inl (fun _ => 0))), (q13 + 1 + 3, .inl (cs 0, 16, .inl (fun _ => 0))), (q13 + 1 + 4, .inl (cs 0, 16, .inl (fun _ => 0))), (q13 + 1 + 5, .inl (cs 0, 16, .inl (fun _ => 0))), (q13 + 1 + 6, .inl (cs 0, 16, .inl (fun _ => 0))), (q12, .inl (cs 0, 81, .inl (fun _ => 0))), (q11, .inl (cs 0, 16, .inl (fun _ => 0))), (q10, .inl (cs 0, 16, .inl (fun _ => 0))), (q9, .inl (cs 0, 16, .inl (fun _ => 0))), (q8, .inl (cs 0, 192, .inl (fun _ => 0))), (q7, .inl (cs 0, 7, .inl (fun _ => 0))), (q6, .inl (cs 1, 40, .inl (fun _ => 0))), (q5, .inl (cs 1, 40, .inl (fun _ => 0))), (q4, .inl (cs 0, 12, .inl (fun _ => 0))), (q3, .inl (cs 3, 24, .inr (.inl (fun _ => 0)))), (q2, .inl (cs 1, 80, .inl (fun _ => 0))), (q1, .inl (cs 0, 16, .inl (upd (upd (upd (upd (upd (fun _ => 0) 0 3) 1 3) 2 3) 3 3) 4 3)))]) h 41 rfl (by decide) rfl t_X12_init_267 ?_
  refine n_iinc (k := 0) (v := 5) h hn t_X12_init_268 rfl (by decide) (by decide) rfl ?_
  refine n_goto (tgt := 255) h t_X12_init_271 (by decide) ?_
  refine n_iload h 0 t_X12_init_255 rfl ?_
  refine n_bipush (v := 6) h t_X12_init_256 (by decide) ?_
  refine n_ge (tgt := 274) h t_X12_init_258 (by decide) (fun q => absurd q (by decide)) (fun _ => ?_)
  refine n_aload h 1 t_X12_init_261 rfl ?_
  refine n_get (ci := 12) h 0 0 rfl rfl (by decide) (vtb_at 1338 (by decide +kernel) rfl) rfl t_X12_init_262 ?_
  refine n_iload h 0 t_X12_init_265 rfl ?_
  refine n_iconst (v := 3) h t_X12_init_266 (by decide) ?_
  refine n_iast (ws' := [(a, .inr (12, [.ref q1, .int 3, .int 21, .ref q2, .int 0, .ref q3, .int 0, .int 0, .null, .int 0, .int 0, .int 0, .int 0, .ref q4, .ref q5, .ref q6, .int 0, .int 0, .ref q7, .int 0, .int 0, .int 0, .ref q8, .int 0, .ref q9, .ref q10, .ref q11, .ref q12, .int 0, .ref q13, .ref q14, .ref q15, .int 0, .int 0, .ref q16, .ref q17, .int 0, .ref q18, .int 0, .ref q19, .ref q20, .ref q21, .ref q22, .int 0, .ref q23, .ref q24, .int 0, .ref q25, .ref q26, .int 0, .int 0, .int 0, .ref q27, .ref q28, .ref q29])), (q29, .inl (cs 0, 2, .inl (fun _ => 0))), (q28, .inl (cs 2, 2, .inl (fun _ => 0))), (q27, .inl (cs 0, 32, .inl (fun _ => 0))), (q26, .inl (cs 0, 51, .inl (fun _ => 0))), (q25, .inl (cs 2, 64, .inl (fun _ => 0))), (q24, .inl (cs 0, 10, .inl (fun _ => 0))), (q23, .inl (cs 0, 10, .inl (fun _ => 0))), (q22, .inl (cs 0, 12, .inl (fun _ => 0))), (q21, .inl (cs 0, 12, .inl (fun _ => 0))), (q20, .inl (cs 0, 24, .inl (fun _ => 0))), (q19, .inl (cs 0, 976, .inl (fun _ => 0))), (q18, .inl (cs 0, 3456, .inl (fun _ => 0))), (q17, .inl (cs 0, 5, .inl (fun _ => 0))), (q16, .inl (cs 5, 5, .inr (.inr (.inr (.inr (fun j => if j < 5 then some (q16 + 1 + j) else none)))))), (q16 + 1 + 0, .inl (cs 0, 5, .inl (fun _ => 0))), (q16 + 1 + 1, .inl (cs 0, 5, .inl (fun _ => 0))), (q16 + 1 + 2, .inl (cs 0, 5, .inl (fun _ => 0))), (q16 + 1 + 3, .inl (cs 0, 5, .inl (fun _ => 0))), (q16 + 1 + 4, .inl (cs 0, 5, .inl (fun _ => 0))), (q15, .inl (cs 0, 7, .inl (fun _ => 0))), (q14, .inl (cs 0, 7, .inl (fun _ => 0))), (q13, .inl (cs 5, 7, .inr (.inr (.inr (.inr (fun j => if j < 7 then some (q13 + 1 + j) else none)))))), (q13 + 1 + 0, .inl (cs 0, 16, .inl (fun _ => 0))), (q13 + 1 + 1, .inl (cs 0, 16, .inl (fun _ => 0))), (q13 + 1 + 2, .inl (cs 0, 16, .inl (fun _ => 0))), (q13 + 1 + 3, .inl (cs 0, 16, .inl (fun _ => 0))), (q13 + 1 + 4, .inl (cs 0, 16, .inl (fun _ => 0))), (q13 + 1 + 5, .inl (cs 0, 16, .inl (fun _ => 0))), (q13 + 1 + 6, .inl (cs 0, 16, .inl (fun _ => 0))), (q12, .inl (cs 0, 81, .inl (fun _ => 0))), (q11, .inl (cs 0, 16, .inl (fun _ => 0))), (q10, .inl (cs 0, 16, .inl (fun _ => 0))), (q9, .inl (cs 0, 16, .inl (fun _ => 0))), (q8, .inl (cs 0, 192, .inl (fun _ => 0))), (q7, .inl (cs 0, 7, .inl (fun _ => 0))), (q6, .inl (cs 1, 40, .inl (fun _ => 0))), (q5, .inl (cs 1, 40, .inl (fun _ => 0))), (q4, .inl (cs 0, 12, .inl (fun _ => 0))), (q3, .inl (cs 3, 24, .inr (.inl (fun _ => 0)))), (q2, .inl (cs 1, 80, .inl (fun _ => 0))), (q1, .inl (cs 0, 16, .inl (upd (upd (upd (upd (upd (upd (fun _ => 0) 0 3) 1 3) 2 3) 3 3) 4 3) 5 3)))]) h 41 rfl (by decide) rfl t_X12_init_267 ?_
  refine n_iinc (k := 0) (v := 6) h hn t_X12_init_268 rfl (by decide) (by decide) rfl ?_
  refine n_goto (tgt := 255) h t_X12_init_271 (by decide) ?_
  refine n_iload h 0 t_X12_init_255 rfl ?_
  refine n_bipush (v := 6) h t_X12_init_256 (by decide) ?_
  refine n_ge (tgt := 274) h t_X12_init_258 (by decide) (fun _ => ?_) (fun q => absurd (by decide) q)
  exact fin _ _ _ _ _ t_X12_init_274 (Nat.le_of_ble_eq_true rfl) (Nat.le_of_ble_eq_true rfl) ⟨q1, q2, q3, q4, q5, q6, q7, q8, q9, q10, q11, q12, q13, q14, q15, q16, q17, q18, q19, q20, q21, q22, q23, q24, q25, q26, q27, q28, q29, rfl⟩
