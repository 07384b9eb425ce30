/-! METHODS BY NUMBER -/
def mFb (M : Nat) : Bool := Nat.beq (mK M) 4 || (plainName (mY M).cls && decide ((mY M).cls ≠ "java/lang/invoke/MethodHandle") && decide ((mY M).cls ≠ "java/lang/invoke/VarHandle") && decide (oS (mO M) = (mY M).cls) && (!Nat.beq (mK M) 2 || decide ((mY M).name = "<init>")) && (Nat.beq (mK M) 3 || (hnd M).isEmpty) && Nat.ble (mxL M) 12 && (!Nat.beq (mK M) 2 || decide (mT M = none)))
set_option maxRecDepth 100000 in
theorem mF_all : (List.range 312).all mFb = true := by decide +kernel
theorem mF {M : Nat} (hM : M < 312) (hk : mK M ≠ 4) : plainName (mY M).cls = true ∧ ((mY M).cls ≠ "java/lang/invoke/MethodHandle" ∧ (mY M).cls ≠ "java/lang/invoke/VarHandle") ∧ oS (mO M) = (mY M).cls ∧ (mK M = 2 → (mY M).name = "<init>") ∧ (mK M ≠ 3 → hnd M = []) ∧ mxL M ≤ 12 ∧ (mK M = 2 → mT M = none) := by
  have h := List.all_eq_true.mp mF_all M (List.mem_range.mpr hM)
  simp only [mFb, Bool.or_eq_true, Bool.and_eq_true, Nat.beq_eq, decide_eq_true_eq, Bool.not_eq_true', List.isEmpty_iff, Nat.ble_eq] at h
  rcases h with h | ⟨⟨⟨⟨⟨⟨⟨h1, h2⟩, h3⟩, h4⟩, h5⟩, h6⟩, h7⟩, h8⟩
  · exact absurd h hk
  · refine ⟨h1, ⟨h2, h3⟩, h4, fun e => ?_, fun e => ?_, h7, fun e => ?_⟩
    · rcases h5 with h5 | h5
      · rw [e] at h5; cases h5
      · exact h5
    · rcases h6 with h6 | h6
      · exact absurd h6 e
      · exact h6
    · rcases h8 with h8 | h8
      · rw [e] at h8; cases h8
      · exact h8
theorem mC_in : ∀ M, M < 312 → mK M ≠ 4 → mC M ∈ wT := by
  intro M h hk
  match M, h with
  | 0, _ => exact mC_0
  | 1, _ => exact mC_1
  | 2, _ => exact mC_2
  | 3, _ => exact mC_3
  | 4, _ => exact mC_4
  | 5, _ => exact mC_5
  | 6, _ => exact mC_6
  | 7, _ => exact mC_7
  | 8, _ => exact mC_8
  | 9, _ => exact mC_9
  | 10, _ => exact mC_10
  | 11, _ => exact mC_11
  | 12, _ => exact mC_12
  | 13, _ => exact mC_13
  | 14, _ => exact mC_14
  | 15, _ => exact mC_15
  | 16, _ => exact mC_16
  | 17, _ => exact mC_17
  | 18, _ => exact mC_18
  | 19, _ => exact mC_19
  | 20, _ => exact mC_20
  | 21, _ => exact mC_21
  | 22, _ => exact mC_22
  | 23, _ => exact mC_23
  | 24, _ => exact mC_24
  | 25, _ => exact mC_25
  | 26, _ => exact mC_26
  | 27, _ => exact mC_27
  | 28, _ => exact mC_28
  | 29, _ => exact mC_29
  | 30, _ => exact mC_30
  | 31, _ => exact mC_31
  | 32, _ => exact mC_32
  | 33, _ => exact mC_33
  | 34, _ => exact mC_34
  | 35, _ => exact mC_35
  | 36, _ => exact mC_36
  | 37, _ => exact mC_37
  | 38, _ => exact mC_38
  | 39, _ => exact mC_39
  | 40, _ => exact mC_40
  | 41, _ => exact mC_41
  | 42, _ => exact mC_42
  | 43, _ => exact mC_43
  | 44, _ => exact mC_44
  | 45, _ => exact mC_45
  | 46, _ => exact mC_46
  | 47, _ => exact mC_47
  | 48, _ => exact mC_48
  | 49, _ => exact mC_49
  | 50, _ => exact mC_50
  | 51, _ => exact mC_51
  | 52, _ => exact mC_52
  | 53, _ => exact mC_53
  | 54, _ => exact mC_54
  | 55, _ => exact mC_55
  | 56, _ => exact mC_56
  | 57, _ => exact mC_57
  | 58, _ => exact mC_58
  | 59, _ => exact mC_59
  | 60, _ => exact mC_60
  | 61, _ => exact mC_61
  | 62, _ => exact mC_62
  | 63, _ => exact mC_63
  | 64, _ => exact mC_64
  | 65, _ => exact mC_65
  | 66, _ => exact mC_66
  | 67, _ => exact mC_67
  | 68, _ => exact mC_68
  | 69, _ => exact mC_69
  | 70, _ => exact mC_70
  | 71, _ => exact mC_71
  | 72, _ => exact mC_72
  | 73, _ => exact mC_73
  | 74, _ => exact mC_74
  | 75, _ => exact mC_75
  | 76, _ => exact mC_76
  | 77, _ => exact mC_77
  | 78, _ => exact mC_78
  | 79, _ => exact mC_79
  | 80, _ => exact mC_80
  | 81, _ => exact mC_81
  | 82, _ => exact mC_82
  | 83, _ => exact mC_83
  | 84, _ => exact mC_84
  | 85, _ => exact mC_85
  | 86, _ => exact mC_86
  | 87, _ => exact mC_87
  | 88, _ => exact mC_88
  | 89, _ => exact mC_89
  | 90, _ => exact mC_90
  | 91, _ => exact mC_91
  | 92, _ => exact mC_92
  | 93, _ => exact mC_93
  | 94, _ => exact mC_94
  | 95, _ => exact mC_95
  | 96, _ => exact mC_96
  | 97, _ => exact mC_97
  | 98, _ => exact mC_98
  | 99, _ => exact mC_99
  | 100, _ => exact mC_100
  | 101, _ => exact mC_101
  | 102, _ => exact mC_102
  | 103, _ => exact mC_103
  | 104, _ => exact mC_104
  | 105, _ => exact mC_105
  | 106, _ => exact mC_106
  | 107, _ => exact mC_107
  | 108, _ => exact mC_108
  | 109, _ => exact mC_109
  | 110, _ => exact mC_110
  | 111, _ => exact mC_111
  | 112, _ => exact mC_112
  | 113, _ => exact mC_113
  | 114, _ => exact mC_114
  | 115, _ => exact mC_115
  | 116, _ => exact mC_116
  | 117, _ => exact mC_117
  | 118, _ => exact mC_118
  | 119, _ => exact mC_119
  | 120, _ => exact mC_120
  | 121, _ => exact mC_121
  | 122, _ => exact mC_122
  | 123, _ => exact mC_123
  | 124, _ => exact mC_124
  | 125, _ => exact mC_125
  | 126, _ => exact mC_126
  | 127, _ => exact mC_127
  | 128, _ => exact mC_128
  | 129, _ => exact mC_129
  | 130, _ => exact mC_130
  | 131, _ => exact mC_131
  | 132, _ => exact mC_132
  | 133, _ => exact mC_133
  | 134, _ => exact mC_134
  | 135, _ => exact mC_135
  | 136, _ => exact mC_136
  | 137, _ => exact mC_137
  | 138, _ => exact mC_138
  | 139, _ => exact mC_139
  | 140, _ => exact mC_140
  | 141, _ => exact mC_141
  | 142, _ => exact mC_142
  | 143, _ => exact mC_143
  | 144, _ => exact mC_144
  | 145, _ => exact mC_145
  | 146, _ => exact mC_146
  | 147, _ => exact mC_147
  | 148, _ => exact mC_148
  | 149, _ => exact mC_149
  | 150, _ => exact mC_150
  | 151, _ => exact mC_151
  | 152, _ => exact mC_152
  | 153, _ => exact mC_153
  | 154, _ => exact mC_154
  | 155, _ => exact mC_155
  | 156, _ => exact mC_156
  | 157, _ => exact mC_157
  | 158, _ => exact mC_158
  | 159, _ => exact mC_159
  | 160, _ => exact mC_160
  | 161, _ => exact mC_161
  | 162, _ => exact mC_162
  | 163, _ => exact mC_163
  | 164, _ => exact mC_164
  | 165, _ => exact mC_165
  | 166, _ => exact mC_166
  | 167, _ => exact mC_167
  | 168, _ => exact mC_168
  | 169, _ => exact mC_169
  | 170, _ => exact mC_170
  | 171, _ => exact mC_171
  | 172, _ => exact mC_172
  | 173, _ => exact mC_173
  | 174, _ => exact mC_174
  | 175, _ => exact mC_175
  | 176, _ => exact mC_176
  | 177, _ => exact mC_177
  | 178, _ => exact mC_178
  | 179, _ => exact mC_179
  | 180, _ => exact mC_180
  | 181, _ => exact mC_181
  | 182, _ => exact mC_182
  | 183, _ => exact mC_183
  | 184, _ => exact mC_184
  | 185, _ => exact mC_185
  | 186, _ => exact mC_186
  | 187, _ => exact mC_187
  | 188, _ => exact mC_188
  | 189, _ => exact mC_189
  | 190, _ => exact mC_190
  | 191, _ => exact mC_191
  | 192, _ => exact mC_192
  | 193, _ => exact mC_193
  | 194, _ => exact mC_194
  | 195, _ => exact mC_195
  | 196, _ => exact mC_196
  | 197, _ => exact mC_197
  | 198, _ => exact mC_198
  | 199, _ => exact mC_199
  | 200, _ => exact mC_200
  | 201, _ => exact mC_201
  | 202, _ => exact mC_202
  | 203, _ => exact mC_203
  | 204, _ => exact mC_204
  | 205, _ => exact mC_205
  | 206, _ => exact mC_206
  | 207, _ => exact mC_207
  | 208, _ => exact mC_208
  | 209, _ => exact mC_209
  | 210, _ => exact mC_210
  | 211, _ => exact mC_211
  | 212, _ => exact mC_212
  | 213, _ => exact mC_213
  | 214, _ => exact mC_214
  | 215, _ => exact mC_215
  | 216, _ => exact mC_216
  | 217, _ => exact mC_217
  | 218, _ => exact mC_218
  | 219, _ => exact mC_219
  | 220, _ => exact mC_220
  | 221, _ => exact mC_221
  | 222, _ => exact mC_222
  | 223, _ => exact mC_223
  | 224, _ => exact mC_224
  | 225, _ => exact mC_225
  | 226, _ => exact mC_226
  | 227, _ => exact mC_227
  | 228, _ => exact mC_228
  | 229, _ => exact mC_229
  | 230, _ => exact mC_230
  | 231, _ => exact mC_231
  | 232, _ => exact mC_232
  | 233, _ => exact mC_233
  | 234, _ => exact mC_234
  | 235, _ => exact mC_235
  | 236, _ => exact mC_236
  | 237, _ => exact mC_237
  | 238, _ => exact mC_238
  | 239, _ => exact mC_239
  | 240, _ => exact mC_240
  | 241, _ => exact mC_241
  | 242, _ => exact mC_242
  | 243, _ => exact mC_243
  | 244, _ => exact mC_244
  | 245, _ => exact mC_245
  | 246, _ => exact mC_246
  | 247, _ => exact mC_247
  | 248, _ => exact mC_248
  | 249, _ => exact mC_249
  | 250, _ => exact mC_250
  | 251, _ => exact mC_251
  | 252, _ => exact mC_252
  | 253, _ => exact mC_253
  | 254, _ => exact mC_254
  | 255, _ => exact mC_255
  | 256, _ => exact mC_256
  | 257, _ => exact mC_257
  | 258, _ => exact mC_258
  | 259, _ => exact mC_259
  | 260, _ => exact mC_260
  | 261, _ => exact mC_261
  | 262, _ => exact mC_262
  | 263, _ => exact mC_263
  | 264, _ => exact mC_264
  | 265, _ => exact mC_265
  | 266, _ => exact mC_266
  | 267, _ => exact mC_267
  | 268, _ => exact mC_268
  | 269, _ => exact mC_269
  | 270, _ => exact mC_270
  | 271, _ => exact mC_271
  | 272, _ => exact mC_272
  | 273, _ => exact mC_273
  | 274, _ => exact mC_274
  | 275, _ => exact mC_275
  | 276, _ => exact mC_276
  | 277, _ => exact mC_277
  | 278, _ => exact mC_278
  | 279, _ => exact mC_279
  | 280, _ => exact mC_280
  | 281, _ => exact mC_281
  | 282, _ => exact mC_282
  | 283, _ => exact mC_283
  | 284, _ => exact mC_284
  | 285, _ => exact mC_285
  | 286, _ => exact mC_286
  | 287, _ => exact mC_287
  | 288, _ => exact mC_288
  | 289, _ => exact mC_289
  | 290, _ => exact mC_290
  | 291, _ => exact mC_291
  | 292, _ => exact mC_292
  | 293, _ => exact mC_293
  | 294, _ => exact mC_294
  | 295, _ => exact mC_295
  | 296, _ => exact mC_296
  | 297, _ => exact mC_297
  | 298, _ => exact mC_298
  | 299, _ => exact mC_299
  | 300, _ => exact mC_300
  | 301, _ => exact mC_301
  | 302, _ => exact mC_302
  | 303, _ => exact mC_303
  | 304, _ => exact mC_304
  | 305, _ => exact mC_305
  | 306, _ => exact mC_306
  | 307, _ => exact mC_307
  | 308, _ => exact mC_308
  | 309, _ => exact absurd rfl hk
  | 310, _ => exact mC_310
  | 311, _ => exact mC_311
  | n + 312, h => exact absurd h (by omega)
theorem mW_ok : ∀ M, M < 312 → mOkW M = true := by
  intro M hM
  have key : ∀ g, g < 20 → ((List.range 16).map (16 * g + ·)).all (fun M => Nat.ble 312 M || mOkW M) = true := by
    intro g hg
    match g, hg with
    | 0, _ => exact mOkW_0
    | 1, _ => exact mOkW_1
    | 2, _ => exact mOkW_2
    | 3, _ => exact mOkW_3
    | 4, _ => exact mOkW_4
    | 5, _ => exact mOkW_5
    | 6, _ => exact mOkW_6
    | 7, _ => exact mOkW_7
    | 8, _ => exact mOkW_8
    | 9, _ => exact mOkW_9
    | 10, _ => exact mOkW_10
    | 11, _ => exact mOkW_11
    | 12, _ => exact mOkW_12
    | 13, _ => exact mOkW_13
    | 14, _ => exact mOkW_14
    | 15, _ => exact mOkW_15
    | 16, _ => exact mOkW_16
    | 17, _ => exact mOkW_17
    | 18, _ => exact mOkW_18
    | 19, _ => exact mOkW_19
    | n + 20, h => exact absurd h (by omega)
  have h1 := List.all_eq_true.mp (key (M / 16) (by omega)) M (List.mem_map.mpr ⟨M % 16, List.mem_range.mpr (by omega), by omega⟩)
  simp only [Bool.or_eq_true, Nat.ble_eq] at h1
  rcases h1 with h1 | h1
  · omega
  · exact h1
theorem mW_in {M : Nat} (hM : M < 312) (hk : mK M ≠ 4) : ∀ w ∈ mW M, w ∈ wT := by
  have h := mW_ok M hM
  simp only [mOkW, Bool.or_eq_true, Bool.and_eq_true, Nat.beq_eq] at h
  rcases h with h | ⟨h1, h2⟩
  · exact absurd h hk
  · intro w hw
    have h3 : (mPw.getD M []).map (fun i => lw_tbl[i]?) = (mW M).map some := eq_of_beq h1
    have h4 : some w ∈ (mPw.getD M []).map (fun i => lw_tbl[i]?) := by rw [h3]; exact List.mem_map_of_mem hw
    obtain ⟨i, -, hi⟩ := List.mem_map.mp h4
    exact wT_in i hi (List.all_eq_true.mp h2 w hw)
theorem wT_GoodIn : GoodIn wT wT := fun _ h => ⟨h, good_of_word (wT_good h)⟩
theorem mC_GoodIn {M : Nat} (hM : M < 312) (hk : mK M ≠ 4) : GoodIn wT (mC M :: wT) := fun w h => (List.mem_cons.mp h).elim (fun e => by subst e; exact ⟨mC_in M hM hk, good_of_word (wT_good (mC_in M hM hk))⟩) (wT_GoodIn w)
/-- the contract of a method with a table -/
theorem my_ofWH {l : Launch} {y : MethodName} {ws ws' : List Cond} {rm : Room} {Pc : Array Value → State → Prop} {Qc : Array Value → State → Outcome → State → Prop} {mc ms : Nat} {free : Addr → Prop} {cc : ByteArray} {maxL : Nat} {ret : Option FieldType} {hh : List (Nat × Nat × Nat × Nat)}
    (hy : plainName y.cls = true) (hw : ws = Cond.codeWith y cc maxL ret hh :: ws')
    (body : ∀ p e s m args below meth c s₁, BodyLoose p l y (headSpec ws rm) cc maxL ret e s m args below meth c s₁ → c.maxLocals = maxL → Pc args s →
      W p l e (headSpec ws rm).room s m args below meth c s.heap [] 0 0 (MQ below Qc args s mc ms free) (entryFrame m args maxL)) : Met l y ws rm Pc Qc mc ms free := by
  refine MetFree.of_bodyS (code := cc) (maxLocals := maxL) (ret := ret) hy ?_ ?_
  · intro args s m h hn
    obtain ⟨m9, meth, c, hn9, h1, h2, h3, h4, -, h5, h6, -⟩ := Cond.codeWith_spec (atoms_spec (ws := ws) h _ (by rw [hw]; exact List.mem_cons_self))
    cases hn.symm.trans hn9
    exact ⟨meth, c, h1, h2, h3, h4, h5, h6⟩
  · intro p e s m args below meth c s₁ B hml hP _
    have hh0 : s₁.heap = s.heap := by rw [B.state]; rfl
    obtain ⟨t, a1, o, b1, b2, b3⟩ := body p e s m args below meth c s₁ B hml hP s₁ hh0 (Stand.of_body B)
    exact ⟨t, o, a1, b1, b2, ⟨b3.1, b3.2⟩⟩
/-! WHAT A RUN COMES TO, and what is owed there -/
def retI (v : Option Value) : Instr := match v with
  | none => .return_
  | some (.int _) => .ireturn
  | some (.long _) => .lreturn
  | _ => .areturn
def retT (M : Nat) (v : Option Value) : Prop := match v with
  | none => mT M = none
  | some (.int x) => mT M = some .int ∨ (mT M = some .boolean ∧ x &&& 1 = x)
  | some (.long _) => mT M = some .long
  | some (.ref _) => ∃ t, mT M = some t ∧ isRf t = true
  | _ => False
def FinR (l : Launch) (D : va_G) (E : pEnv) (M : Nat) (p : Program) (e : Env) (R : Room) (s : State) (m : MethodId) (args : Array Value) (below : List Frame) (meth : Method) (c : Code) (A : Nat → Prop) (as : Nat → Nat) (S : pS) (n0 sl0 : Nat) (v : Option Value) (S' : pS) (Q : State → Prop) : Prop :=
  ∀ (as' : Nat → Nat) (H' : Heap) (locs' : List Loc) (mls' : Array Slot) (pc' : Nat), (∀ r, okR S.1 r → as' r = as r) → Wd D E A as' S' s H' → va_S A s.heap H' locs' → (∀ w, v = some w → okV S'.1 w) → decode (mB M) pc' = .ok (retI v, 1) → retT M v → W p l e R s m args below meth c H' locs' (S'.1 - n0) (S'.2.1 - sl0) Q (F0 m pc' mls' ((v.map (rv as')).toList))
def FinX (D : va_G) (E : pEnv) (s : State) (args : Array Value) (below : List Frame) (c : Code) (A : Nat → Prop) (as : Nat → Nat) (S : pS) (n0 sl0 k i : Nat) (S' : pS) (Q : State → Prop) : Prop :=
  ∃ (Qc : Array Value → State → Outcome → State → Prop) (XC : String → State → State → Prop), Q = vx_MQ below Qc XC args s (S'.1 - n0) (S'.2.1 - sl0) A ∧ (∀ x ∈ c.exceptionTable.toList, False) ∧ ∀ (as' : Nat → Nat) (S1 : pS) (t : State), S' = pEx S1 → i = S1.1 → S.1 ≤ S1.1 → (∀ r, okR S.1 r → as' r = as r) → Wd D E A as' S1 t t.heap → va_F A s t → XC (eC k) s t
def Fin_ (l : Launch) (D : va_G) (E : pEnv) (M : Nat) (p : Program) (e : Env) (R : Room) (s : State) (m : MethodId) (args : Array Value) (below : List Frame) (meth : Method) (c : Code) (A : Nat → Prop) (as : Nat → Nat) (S : pS) (n0 sl0 : Nat) (out : pO) (S' : pS) (Q : State → Prop) : Prop := match out with
  | .inl v => FinR l D E M p e R s m args below meth c A as S n0 sl0 v S' Q
  | .inr (k, i) => FinX D E s args below c A as S n0 sl0 k i S' Q
theorem Fin_mono {l : Launch} {D : va_G} {E : pEnv} {M : Nat} {p : Program} {e : Env} {R : Room} {s : State} {m : MethodId} {args : Array Value} {below : List Frame} {meth : Method} {c : Code} {A : Nat → Prop} {as as1 : Nat → Nat} {S S1 : pS} {n0 sl0 : Nat} {out : pO} {S' : pS} {Q : State → Prop} (h : Fin_ l D E M p e R s m args below meth c A as S n0 sl0 out S' Q) (hn : S.1 ≤ S1.1) (ha : ∀ r, okR S.1 r → as1 r = as r) : Fin_ l D E M p e R s m args below meth c A as1 S1 n0 sl0 out S' Q := by
  cases out with
  | inl v => exact fun as' H' locs' mls' pc' h1 => h as' H' locs' mls' pc' (fun r hr => (h1 r (okR_up hn hr)).trans (ha r hr))
  | inr x =>
    obtain ⟨k, i⟩ := x
    obtain ⟨Qc, XC, h1, h2, h3⟩ := h
    exact ⟨Qc, XC, h1, h2, fun as' S2 t e1 e2 e3 h4 => h3 as' S2 t e1 e2 (Nat.le_trans hn e3) (fun r hr => (h4 r (okR_up hn hr)).trans (ha r hr))⟩
def SND (l : Launch) (D : va_G) (E : pEnv) (f : Nat) : Prop := ∀ (d M pc : Nat) (ls st : List Value) (S : pS) (out : pO) (S' : pS), run f d M pc ls st S = some (out, S') → S'.1 ≤ 601024 → M < 312 →
  ∀ (p : Program) (e : Env) (R : Room) (s : State) (m : MethodId) (args : Array Value) (below : List Frame) (meth : Method) (c : Code) (H : Heap) (locs : List Loc) (mls : Array Slot) (as : Nat → Nat) (A : Nat → Prop) (n0 sl0 : Nat) (Q : State → Prop),
  Cx M p s m args meth c → EF E A s s.heap → (∀ q, s.heap.size ≤ q → A q) → Wd D E A as S s H → va_S A s.heap H locs → LV (mJ M) as mls (mxL M) ls → okL S.1 ls → okL S.1 st → n0 ≤ S.1 → sl0 ≤ S.2.1 → d + 10 ≤ R.frames → 40 * d + 400 ≤ R.locals → S'.1 - n0 ≤ R.cells → S'.2.1 - sl0 ≤ R.slots →
  Fin_ l D E M p e R s m args below meth c A as S n0 sl0 out S' Q → W p l e R s m args below meth c H locs (S.1 - n0) (S.2.1 - sl0) Q (F0 m pc mls (st.map (rv as)))
/-! A METHOD'S ENTRY -/
theorem entL_map (as : Nat → Nat) : ∀ l : List Value, entL (l.map (rv as)) = (entL l).map (rv as) := by
  intro l
  induction l with
  | nil => rfl
  | cons v l ih => cases v <;> simp [entL, rv, ih]
theorem entL_mem {v : Value} : ∀ {l : List Value}, v ∈ entL l → v ∈ l ∨ v = mk0 := by
  intro l
  induction l with
  | nil => intro h; cases h
  | cons a l ih =>
    intro h
    cases a with
    | long y =>
      simp only [entL, List.mem_cons] at h
      rcases h with h | h | h
      · exact Or.inl (h ▸ List.mem_cons_self)
      · exact Or.inr h
      · exact (ih h).imp (List.mem_cons_of_mem _) id
    | _ =>
      simp only [entL, List.mem_cons] at h
      rcases h with h | h
      · exact Or.inl (h ▸ List.mem_cons_self)
      · exact (ih h).imp (List.mem_cons_of_mem _) id
theorem entL_len : ∀ l : List Value, (∀ v ∈ l, ∀ x, v ≠ .double x) → (lg_sl l).length = (entL l).length := by
  intro l
  induction l with
  | nil => intro _; rfl
  | cons a l ih =>
    intro h
    have h2 := ih (fun v hv => h v (List.mem_cons_of_mem _ hv))
    cases a <;> first | exact absurd rfl (h _ List.mem_cons_self _) | simp [lg_sl, entL, Value.category] at h2 ⊢ <;> omega
theorem okV_nd {n : Nat} {v : Value} (h : okV n v) : ∀ x, v ≠ .double x := by
  intro x e; subst e; exact h
theorem LV_entry {M n : Nat} {as : Nat → Nat} {av : List Value} (hav : okL n av) (harg : argOk M av = true) : ∃ mls : Array Slot, (∀ m : MethodId, entryFrame m (av.map (rv as)).toArray (mxL M) = F0 m 0 mls []) ∧ LV (mJ M) as mls (mxL M) (ent M av) ∧ okL n (ent M av) := by
  simp only [argOk, Bool.and_eq_true, Nat.ble_eq, Bool.or_eq_true] at harg
  obtain ⟨hle, hj⟩ := harg
  have hnd : ∀ v ∈ av, ∀ x, v ≠ .double x := fun v hv => okV_nd (hav v hv)
  have hnd' : ∀ v ∈ av.map (rv as), ∀ x, v ≠ .double x := by
    intro v hv x
    obtain ⟨w, hw, rfl⟩ := List.mem_map.mp hv
    intro e
    cases w <;> first | exact absurd rfl (hnd _ hw _) | cases e
  have hlen : (lg_sl (av.map (rv as))).length ≤ mxL M := by
    rw [entL_len _ hnd', entL_map, List.length_map]; exact hle
  have he := lv_entry (av.map (rv as)) (n := mxL M) hlen
  refine ⟨_, fun m => lg_entry_eq m _ _, ?_, ?_⟩
  · refine ⟨he.1, he.2.1, ?_, ?_, ?_, ?_⟩
    · simp [ent, entN]; omega
    · intro i v hi hm
      have hi2 : (entL av)[i]? = some v := by
        unfold ent entN at hi
        by_cases h : i < (entL av).length
        · rwa [List.getElem?_append_left h] at hi
        · rw [List.getElem?_append_right (by omega)] at hi
          have := List.mem_of_getElem? hi
          rw [List.mem_replicate] at this
          exact absurd this.2 hm
      have hi3 : (entL (av.map (rv as)))[i]? = some (rv as v) := by rw [entL_map, List.getElem?_map, hi2]; rfl
      have h4 := ent_args (av.map (rv as)) 0 i (rv as v) hi3 (by intro e; cases v <;> first | exact hm e | cases e) hnd'
      rw [Nat.zero_add] at h4
      exact he.2.2 _ h4
    · intro v hv x
      rcases List.mem_append.mp hv with h | h
      · rcases entL_mem h with h | h
        · exact hnd v h x
        · rw [h]; intro e; cases e
      · rw [(List.mem_replicate.mp h).2]; intro e; cases e
    · intro hf v hv x
      have hall : ∀ v ∈ av, isJ v = false := by
        rcases hj with hj | hj
        · rw [hf] at hj; cases hj
        · intro v hv
          have := List.all_eq_true.mp hj v hv
          simpa using this
      rcases List.mem_append.mp hv with h | h
      · rcases entL_mem h with h | h
        · intro e; subst e; exact absurd (hall _ h) (by simp [isJ])
        · rw [h]; intro e; cases e
      · rw [(List.mem_replicate.mp h).2]; intro e; cases e
  · intro v hv
    rcases List.mem_append.mp hv with h | h
    · rcases entL_mem h with h | h
      · exact hav v h
      · rw [h]; trivial
    · rw [(List.mem_replicate.mp h).2]; trivial

