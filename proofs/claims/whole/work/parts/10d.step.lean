/-! ONE INSTRUCTION OF THE MACHINE for one step of the pure one -/
def Cx (M : Nat) (p : Program) (s : State) (m : MethodId) (args : Array Value) (meth : Method) (c : Code) : Prop :=
  p.tables.exec = Jvm.exec ∧ c.code = mB M ∧ meth.sig.returnType = mT M ∧ meth.locks = false ∧ c.maxLocals = mxL M ∧ s.vm.findClass (oS (mO M)) = some m.cls ∧ (∀ w ∈ wT, w.before args s = true) ∧ (mK M = 2 → meth.name = "<init>") ∧ (mK M = 3 → c.exceptionTable.toList = tableOf (mH M))
def Wd (D : va_G) (E : pEnv) (A : Nat → Prop) (as : Nat → Nat) (S : pS) (U : State) (H : Heap) : Prop := ∃ (tys : List (ClassId × FieldType)) (ws : va_W), va_K D vwCl tys U ∧ va_P D vwCl ws H ∧ va_D A ws ∧ HR as S tys ws ∧ AsE E as S
def Ct (l : Launch) (D : va_G) (E : pEnv) (M : Nat) (p : Program) (e : Env) (R : Room) (s : State) (m : MethodId) (args : Array Value) (below : List Frame) (meth : Method) (c : Code) (A : Nat → Prop) (n0 sl0 : Nat) (Q : State → Prop) (K : Nat → List Value → List Value → pS → pR) (z : pO × pS) (as : Nat → Nat) (S : pS) : Prop :=
  ∀ (pc' : Nat) (ls' : List Value) (mls' : Array Slot) (st' : List Value) (S1 : pS) (as1 : Nat → Nat) (H1 : Heap) (locs1 : List Loc), K pc' ls' st' S1 = some z → (∀ r, okR S.1 r → as1 r = as r) → Wd D E A as1 S1 s H1 → va_S A s.heap H1 locs1 → LV (mJ M) as1 mls' (mxL M) ls' → okL S1.1 ls' → okL S1.1 st' → S.1 ≤ S1.1 → S.2.1 ≤ S1.2.1 → W p l e R s m args below meth c H1 locs1 (S1.1 - n0) (S1.2.1 - sl0) Q (F0 m pc' mls' (st'.map (rv as1)))
def dfl (l : List Value) : Bool := l.all fun v => decide (v = .int 0) || decide (v = .null)
theorem dfl_i {l : List Value} (h : dfl l = true) (as : Nat → Nat) (n : Nat) : l.map (rv as) = l ∧ okL n l := by
  have h1 : ∀ v ∈ l, v = .int 0 ∨ v = .null := by
    intro v hv
    have := List.all_eq_true.mp h v hv
    simpa using this
  refine ⟨?_, fun v hv => by rcases h1 v hv with rfl | rfl <;> trivial⟩
  conv => rhs; rw [← List.map_id l]
  exact List.map_congr_left fun v hv => by rcases h1 v hv with rfl | rfl <;> rfl
set_option maxRecDepth 10000 in
theorem clF : ∀ a, a < 12 → ∃ (C : String) (T : u_T) (N : Nat) (ty : Nat → FieldType), vwCl[a]? = some (C, T, N) ∧ (∀ w ∈ u_ws C T N, w ∈ wT) ∧ (∀ k, k < N → parseFieldDescriptor (T k).2.2.1 = some (ty k)) ∧ (∀ i, i < N → ∀ j, j < N → i ≠ j → (T i).2.1 ≠ (T j).2.1) ∧ (∀ j, j < N → defaultValue (ty j) = vp_V (pD0.getD a []) j) ∧ dfl (pD0.getD a []) = true := by
  intro a ha
  match a, ha with
  | 0, _ => exact ⟨RX0, TX0, 3, tyX0, rfl, wU_0, tyX0_ok, nmX0, by decide +kernel, by decide +kernel⟩
  | 1, _ => exact ⟨RX1, TX1, 4, tyX1, rfl, wU_1, tyX1_ok, nmX1, by decide +kernel, by decide +kernel⟩
  | 2, _ => exact ⟨RX2, TX2, 3, tyX2, rfl, wU_2, tyX2_ok, nmX2, by decide +kernel, by decide +kernel⟩
  | 3, _ => exact ⟨RX3, TX3, 5, tyX3, rfl, wU_3, tyX3_ok, nmX3, by decide +kernel, by decide +kernel⟩
  | 4, _ => exact ⟨RX4, TX4, 4, tyX4, rfl, wU_4, tyX4_ok, nmX4, by decide +kernel, by decide +kernel⟩
  | 5, _ => exact ⟨RX5, TX5, 8, tyX5, rfl, wU_5, tyX5_ok, nmX5, by decide +kernel, by decide +kernel⟩
  | 6, _ => exact ⟨RX6, TX6, 1, tyX6, rfl, wU_6, tyX6_ok, nmX6, by decide +kernel, by decide +kernel⟩
  | 7, _ => exact ⟨RX7, TX7, 9, tyX7, rfl, wU_7, tyX7_ok, nmX7, by decide +kernel, by decide +kernel⟩
  | 8, _ => exact ⟨RX8, TX8, 7, tyX8, rfl, wU_8, tyX8_ok, nmX8, by decide +kernel, by decide +kernel⟩
  | 9, _ => exact ⟨RX9, TX9, 9, tyX9, rfl, wU_9, tyX9_ok, nmX9, by decide +kernel, by decide +kernel⟩
  | 10, _ => exact ⟨RX10, TX10, 14, tyX10, rfl, wU_10, tyX10_ok, nmX10, by decide +kernel, by decide +kernel⟩
  | 11, _ => exact ⟨RX11, TX11, 55, tyX11, rfl, wU_11, tyX11_ok, nmX11, by decide +kernel, by decide +kernel⟩
  | n + 12, h => exact absurd h (by omega)
theorem fN_of {a : Nat} {C : String} {T : u_T} {N : Nat} (h : vwCl[a]? = some (C, T, N)) : fN_ a = N := by simp [fN_, h]
theorem fTy_of {a k : Nat} {C : String} {T : u_T} {N : Nat} (h : vwCl[a]? = some (C, T, N)) : fTy a k = parseFieldDescriptor (T k).2.2.1 := by simp [fTy, h]
theorem fFin_of {a k : Nat} {C : String} {T : u_T} {N : Nat} (h : vwCl[a]? = some (C, T, N)) : fFin a k = (T k).2.2.2 := by simp [fFin, h]
theorem fDc_of {a k : Nat} {C : String} {T : u_T} {N : Nat} (h : vwCl[a]? = some (C, T, N)) : fDc a k = (T k).1 := by simp [fDc, h]
theorem fW_of {o i a k : Nat} {C : String} {T : u_T} {N : Nat} (h : vwCl[a]? = some (C, T, N)) : fW (o, i, a, k) = .fieldLink (oS o) i (T k).1 (T k).2.1 (T k).2.2.1 := by simp [fW, h]
section
variable {p : Program} {l : Launch} {e : Env} {R : Room} {s : State} {m : MethodId} {args : Array Value} {below : List Frame} {meth : Method} {c : Code} {H : Heap} {locs : List Loc} {cells slots : Nat} {Q : State → Prop}
/-- a text by a wide index -/
theorem my_ldcwS {cc : ByteArray} {pc : Nat} {ls : Array Slot} {rest : List Value} (hexec : p.tables.exec = Jvm.exec) (hb : c.code = cc) {own tx : String} {index q : Nat} (hown : s.vm.findClass own = some m.cls) (hZ : vk_R own index tx q s) (hdg : decode cc pc = .ok (.ldc_w index, 3))
    (k : W p l e R s m args below meth c H locs cells slots Q (F0 m (pc + 3) ls (.ref q :: rest))) : W p l e R s m args below meth c H locs cells slots Q (F0 m pc ls rest) := by
  intro T hT X
  obtain ⟨t, a1, b1⟩ := k T hT X
  refine ⟨t, ?_, b1⟩
  obtain ⟨kc, cf, i, a', hk, hcf, hcp, -, hr, hev'⟩ := Cond.stringRef_spec hown hZ.1
  cases hZ.2.symm.trans hev'
  obtain ⟨k', hk', he⟩ := X.warmed.alike.2.2 _ _ hk
  have hr' : k'.resolved[index]? = some (some (.string q)) := by
    rcases X.warmed.entry hk hk' index with h | ⟨h, -⟩
    · rw [h]; exact hr
    · rw [hr] at h; cases h
  subst hb
  jvm_step X.here [hexec, hdg, ldc_w.wp_string (e := e) (s := T) (f := F0 m pc ls rest) X.here.top hk' (by rw [he]; exact hcf) hcp hr']
  exact a1
end
theorem i32_of {v : Int32} {n : Int} (h1 : -1000000 ≤ n) (h2 : n ≤ 1000000) : v = Int32.ofInt n ↔ v.toInt = n := by
  constructor
  · intro h
    rw [h, Int32.toInt_ofInt_of_le (by omega) (by omega)]
  · intro h
    apply Int32.toInt_inj.mp
    rw [h, Int32.toInt_ofInt_of_le (by omega) (by omega)]
theorem kSw_t {F : Nat → pR} {z : pO × pS} {v : Int32} {pc d : Nat} : ∀ (l : List Int) (lo : Int), -1000000 ≤ lo → lo + (l.length : Int) ≤ 1000000 → kSw (swT l pc lo) d v F = some z → (∃ (j : Nat) (y : Int), l[j]? = some y ∧ v.toInt = lo + (j : Int) ∧ F ((pc : Int) + y).toNat = some z) ∨ ((v.toInt < lo ∨ lo + (l.length : Int) ≤ v.toInt) ∧ F d = some z) := by
  intro l
  induction l with
  | nil =>
    intro lo h1 h2 h
    refine Or.inr ⟨?_, h⟩
    simp only [List.length_nil]
    omega
  | cons y l ih =>
    intro lo h1 h2 h
    simp only [List.length_cons] at h2
    unfold swT kSw at h
    by_cases hv : v = Int32.ofInt lo
    · rw [if_pos hv] at h
      exact Or.inl ⟨0, y, rfl, by rw [(i32_of (by omega) (by omega)).mp hv]; omega, h⟩
    · rw [if_neg hv] at h
      have hv2 : v.toInt ≠ lo := fun e => hv ((i32_of (by omega) (by omega)).mpr e)
      rcases ih (lo + 1) (by omega) (by omega) h with ⟨j, y2, g1, g2, g3⟩ | ⟨g1, g2⟩
      · exact Or.inl ⟨j + 1, y2, g1, by rw [g2]; omega, g3⟩
      · refine Or.inr ⟨?_, g2⟩
        simp only [List.length_cons]
        omega
theorem kSw_l {F : Nat → pR} {z : pO × pS} {v : Int32} {pc : Nat} {dd : Int} : ∀ (l : List (Int × Int)), (∀ q ∈ l, -1000000 < q.1 ∧ q.1 < 1000000) → kSw (l.map (fun q => (Int32.ofInt q.1, ((pc : Int) + q.2).toNat))) ((pc : Int) + dd).toNat v F = some z → F ((pc : Int) + Op.lookupswitch.offset l dd v.toInt).toNat = some z := by
  intro l
  induction l with
  | nil => intro _ h; exact h
  | cons q l ih =>
    intro hq h
    obtain ⟨k, o⟩ := q
    have hb := hq (k, o) List.mem_cons_self
    rw [Op.lookupswitch.offset_cons]
    simp only [List.map_cons] at h
    unfold kSw at h
    by_cases hv : v = Int32.ofInt k
    · rw [if_pos hv] at h
      rw [if_pos ((i32_of (by omega) (by omega)).mp hv).symm]
      exact h
    · rw [if_neg hv] at h
      rw [if_neg (fun e => hv ((i32_of (by omega) (by omega)).mpr e.symm))]
      exact ih (fun q hq' => hq q (List.mem_cons_of_mem _ hq')) h
theorem off_in {dd k : Int} : ∀ (l : List (Int × Int)), Op.lookupswitch.offset l dd k = dd ∨ ∃ q ∈ l, Op.lookupswitch.offset l dd k = q.2 := by
  intro l
  induction l with
  | nil => exact Or.inl rfl
  | cons q l ih =>
    obtain ⟨a, o⟩ := q
    rw [Op.lookupswitch.offset_cons]
    by_cases h : a = k
    · rw [if_pos h]
      exact Or.inr ⟨(a, o), List.mem_cons_self, rfl⟩
    · rw [if_neg h]
      rcases ih with h1 | ⟨q, hq, h1⟩
      · exact Or.inl h1
      · exact Or.inr ⟨q, List.mem_cons_of_mem _ hq, h1⟩
set_option maxHeartbeats 4000000 in
set_option maxRecDepth 10000 in
theorem stepA {l : Launch} {D : va_G} {E : pEnv} {M : Nat} {p : Program} {e : Env} {R : Room} {s : State} {m : MethodId} {args : Array Value} {below : List Frame} {meth : Method} {c : Code} {A : Nat → Prop} {n0 sl0 : Nat} {Q : State → Prop} {C : Nat → List Value → pS → pR} {K : Nat → List Value → List Value → pS → pR} {z : pO × pS} {as : Nat → Nat} {S : pS} {pc len op : Nat} {x : Int} {a b : Nat} {i : Instr} {ls st : List Value} {H : Heap} {locs : List Loc} {mls : Array Slot}
    (cx : Cx M p s m args meth c) (hE : EF E A s s.heap) (hA : ∀ q, s.heap.size ≤ q → A q) (hW : Wd D E A as S s H) (hS : va_S A s.heap H locs) (hL : LV (mJ M) as mls (mxL M) ls) (hls : okL S.1 ls) (hst : okL S.1 st) (hn0 : n0 ≤ S.1) (hsl0 : sl0 ≤ S.2.1)
    (hd : decode (mB M) pc = .ok (i, len)) (hlen : ilen i len = true) (hok : okI M pc op x a b i = true) (hop : op < 38 ∨ op = 67) (h : pStep C K M pc (len, op, x, a, b) ls st S = some z) (ct : Ct l D E M p e R s m args below meth c A n0 sl0 Q K z as S) :
    W p l e R s m args below meth c H locs (S.1 - n0) (S.2.1 - sl0) Q (F0 m pc mls (st.map (rv as))) := by
  obtain ⟨hx, hb, hr, hlk, hml, hown, hts, hin, htb⟩ := cx
  have go : ∀ (pc' : Nat) (st' : List Value), K pc' ls st' S = some z → okL S.1 st' → W p l e R s m args below meth c H locs (S.1 - n0) (S.2.1 - sl0) Q (F0 m pc' mls (st'.map (rv as))) := fun pc' st' hk ho => ct pc' ls mls st' S as H locs hk (fun _ _ => rfl) hW hS hL hls ho (Nat.le_refl _) (Nat.le_refl _)
  have goL : ∀ (pc' : Nat) (ls' : List Value) (mls' : Array Slot) (st' : List Value), K pc' ls' st' S = some z → LV (mJ M) as mls' (mxL M) ls' → okL S.1 ls' → okL S.1 st' → W p l e R s m args below meth c H locs (S.1 - n0) (S.2.1 - sl0) Q (F0 m pc' mls' (st'.map (rv as))) := fun pc' ls' mls' st' hk hL' hls' ho => ct pc' ls' mls' st' S as H locs hk (fun _ _ => rfl) hW hS hL' hls' ho (Nat.le_refl _) (Nat.le_refl _)
  cases i
  case iconst v =>
    simp only [ilen, Nat.beq_eq] at hlen
    simp only [okI, Bool.and_eq_true, Bool.or_eq_true, Nat.beq_eq, Nat.blt_eq, Nat.ble_eq, decide_eq_true_eq, beq_iff_eq] at hok
    obtain ⟨rfl, rfl⟩ := hok
    subst hlen
    (first | rw [pS_0] at h | rw [pS_1] at h | rw [pS_2] at h | rw [pS_3] at h | rw [pS_4] at h | rw [pS_5] at h | rw [pS_6] at h | rw [pS_7] at h | rw [pS_8] at h | rw [pS_9] at h | rw [pS_10] at h | rw [pS_11] at h | rw [pS_12] at h | rw [pS_13] at h | rw [pS_14] at h | rw [pS_15] at h | rw [pS_16] at h | rw [pS_17] at h | rw [pS_18] at h | rw [pS_19] at h | rw [pS_20] at h | rw [pS_21] at h | rw [pS_22] at h | rw [pS_23] at h | rw [pS_24] at h | rw [pS_25] at h | rw [pS_26] at h | rw [pS_27] at h | rw [pS_28] at h | rw [pS_29] at h | rw [pS_30] at h | rw [pS_31] at h | rw [pS_32] at h | rw [pS_33] at h | rw [pS_34] at h | rw [pS_35] at h | rw [pS_36] at h | rw [pS_37] at h | rw [pS_38] at h | rw [pS_39] at h | rw [pS_40] at h | rw [pS_41] at h | rw [pS_42] at h | rw [pS_43] at h | rw [pS_44] at h | rw [pS_45] at h | rw [pS_46] at h | rw [pS_47] at h | rw [pS_48] at h | rw [pS_49] at h | rw [pS_50] at h | rw [pS_51] at h | rw [pS_52] at h | rw [pS_53] at h | rw [pS_54] at h | rw [pS_55] at h | rw [pS_56] at h | rw [pS_57] at h | rw [pS_58] at h | rw [pS_59] at h | rw [pS_60] at h | rw [pS_61] at h | rw [pS_62] at h | rw [pS_63] at h | rw [pS_64] at h | rw [pS_65] at h | rw [pS_66] at h | rw [pS_67] at h)
    exact lv_iconst hx hb hd rfl (go _ _ h (okL_c.mpr ⟨trivial, hst⟩))
  case bipush v =>
    simp only [ilen, Nat.beq_eq] at hlen
    simp only [okI, Bool.and_eq_true, Bool.or_eq_true, Nat.beq_eq, Nat.blt_eq, Nat.ble_eq, decide_eq_true_eq, beq_iff_eq] at hok
    obtain ⟨rfl, hv⟩ := hok
    subst hlen
    (first | rw [pS_0] at h | rw [pS_1] at h | rw [pS_2] at h | rw [pS_3] at h | rw [pS_4] at h | rw [pS_5] at h | rw [pS_6] at h | rw [pS_7] at h | rw [pS_8] at h | rw [pS_9] at h | rw [pS_10] at h | rw [pS_11] at h | rw [pS_12] at h | rw [pS_13] at h | rw [pS_14] at h | rw [pS_15] at h | rw [pS_16] at h | rw [pS_17] at h | rw [pS_18] at h | rw [pS_19] at h | rw [pS_20] at h | rw [pS_21] at h | rw [pS_22] at h | rw [pS_23] at h | rw [pS_24] at h | rw [pS_25] at h | rw [pS_26] at h | rw [pS_27] at h | rw [pS_28] at h | rw [pS_29] at h | rw [pS_30] at h | rw [pS_31] at h | rw [pS_32] at h | rw [pS_33] at h | rw [pS_34] at h | rw [pS_35] at h | rw [pS_36] at h | rw [pS_37] at h | rw [pS_38] at h | rw [pS_39] at h | rw [pS_40] at h | rw [pS_41] at h | rw [pS_42] at h | rw [pS_43] at h | rw [pS_44] at h | rw [pS_45] at h | rw [pS_46] at h | rw [pS_47] at h | rw [pS_48] at h | rw [pS_49] at h | rw [pS_50] at h | rw [pS_51] at h | rw [pS_52] at h | rw [pS_53] at h | rw [pS_54] at h | rw [pS_55] at h | rw [pS_56] at h | rw [pS_57] at h | rw [pS_58] at h | rw [pS_59] at h | rw [pS_60] at h | rw [pS_61] at h | rw [pS_62] at h | rw [pS_63] at h | rw [pS_64] at h | rw [pS_65] at h | rw [pS_66] at h | rw [pS_67] at h)
    exact lv_bipush hx hb hd hv.symm (go _ _ h (okL_c.mpr ⟨trivial, hst⟩))
  case sipush v =>
    simp only [ilen, Nat.beq_eq] at hlen
    simp only [okI, Bool.and_eq_true, Bool.or_eq_true, Nat.beq_eq, Nat.blt_eq, Nat.ble_eq, decide_eq_true_eq, beq_iff_eq] at hok
    obtain ⟨rfl, hv⟩ := hok
    subst hlen
    (first | rw [pS_0] at h | rw [pS_1] at h | rw [pS_2] at h | rw [pS_3] at h | rw [pS_4] at h | rw [pS_5] at h | rw [pS_6] at h | rw [pS_7] at h | rw [pS_8] at h | rw [pS_9] at h | rw [pS_10] at h | rw [pS_11] at h | rw [pS_12] at h | rw [pS_13] at h | rw [pS_14] at h | rw [pS_15] at h | rw [pS_16] at h | rw [pS_17] at h | rw [pS_18] at h | rw [pS_19] at h | rw [pS_20] at h | rw [pS_21] at h | rw [pS_22] at h | rw [pS_23] at h | rw [pS_24] at h | rw [pS_25] at h | rw [pS_26] at h | rw [pS_27] at h | rw [pS_28] at h | rw [pS_29] at h | rw [pS_30] at h | rw [pS_31] at h | rw [pS_32] at h | rw [pS_33] at h | rw [pS_34] at h | rw [pS_35] at h | rw [pS_36] at h | rw [pS_37] at h | rw [pS_38] at h | rw [pS_39] at h | rw [pS_40] at h | rw [pS_41] at h | rw [pS_42] at h | rw [pS_43] at h | rw [pS_44] at h | rw [pS_45] at h | rw [pS_46] at h | rw [pS_47] at h | rw [pS_48] at h | rw [pS_49] at h | rw [pS_50] at h | rw [pS_51] at h | rw [pS_52] at h | rw [pS_53] at h | rw [pS_54] at h | rw [pS_55] at h | rw [pS_56] at h | rw [pS_57] at h | rw [pS_58] at h | rw [pS_59] at h | rw [pS_60] at h | rw [pS_61] at h | rw [pS_62] at h | rw [pS_63] at h | rw [pS_64] at h | rw [pS_65] at h | rw [pS_66] at h | rw [pS_67] at h)
    exact lv_sipush hx hb hd hv.symm (go _ _ h (okL_c.mpr ⟨trivial, hst⟩))
  case ldc k =>
    simp only [ilen, Nat.beq_eq] at hlen
    simp only [okI, Bool.and_eq_true, Bool.or_eq_true, Nat.beq_eq, Nat.blt_eq, Nat.ble_eq, decide_eq_true_eq, beq_iff_eq] at hok
    subst hlen
    rcases hok with ⟨rfl, hv⟩ | ⟨rfl, hv⟩
    · (first | rw [pS_0] at h | rw [pS_1] at h | rw [pS_2] at h | rw [pS_3] at h | rw [pS_4] at h | rw [pS_5] at h | rw [pS_6] at h | rw [pS_7] at h | rw [pS_8] at h | rw [pS_9] at h | rw [pS_10] at h | rw [pS_11] at h | rw [pS_12] at h | rw [pS_13] at h | rw [pS_14] at h | rw [pS_15] at h | rw [pS_16] at h | rw [pS_17] at h | rw [pS_18] at h | rw [pS_19] at h | rw [pS_20] at h | rw [pS_21] at h | rw [pS_22] at h | rw [pS_23] at h | rw [pS_24] at h | rw [pS_25] at h | rw [pS_26] at h | rw [pS_27] at h | rw [pS_28] at h | rw [pS_29] at h | rw [pS_30] at h | rw [pS_31] at h | rw [pS_32] at h | rw [pS_33] at h | rw [pS_34] at h | rw [pS_35] at h | rw [pS_36] at h | rw [pS_37] at h | rw [pS_38] at h | rw [pS_39] at h | rw [pS_40] at h | rw [pS_41] at h | rw [pS_42] at h | rw [pS_43] at h | rw [pS_44] at h | rw [pS_45] at h | rw [pS_46] at h | rw [pS_47] at h | rw [pS_48] at h | rw [pS_49] at h | rw [pS_50] at h | rw [pS_51] at h | rw [pS_52] at h | rw [pS_53] at h | rw [pS_54] at h | rw [pS_55] at h | rw [pS_56] at h | rw [pS_57] at h | rw [pS_58] at h | rw [pS_59] at h | rw [pS_60] at h | rw [pS_61] at h | rw [pS_62] at h | rw [pS_63] at h | rw [pS_64] at h | rw [pS_65] at h | rw [pS_66] at h | rw [pS_67] at h)
      exact lv_ldc hx hb hown (hts _ (CK_ok _ (List.contains_iff_mem.mp hv))) hd (go _ _ h (okL_c.mpr ⟨trivial, hst⟩))
    · (first | rw [pS_0] at h | rw [pS_1] at h | rw [pS_2] at h | rw [pS_3] at h | rw [pS_4] at h | rw [pS_5] at h | rw [pS_6] at h | rw [pS_7] at h | rw [pS_8] at h | rw [pS_9] at h | rw [pS_10] at h | rw [pS_11] at h | rw [pS_12] at h | rw [pS_13] at h | rw [pS_14] at h | rw [pS_15] at h | rw [pS_16] at h | rw [pS_17] at h | rw [pS_18] at h | rw [pS_19] at h | rw [pS_20] at h | rw [pS_21] at h | rw [pS_22] at h | rw [pS_23] at h | rw [pS_24] at h | rw [pS_25] at h | rw [pS_26] at h | rw [pS_27] at h | rw [pS_28] at h | rw [pS_29] at h | rw [pS_30] at h | rw [pS_31] at h | rw [pS_32] at h | rw [pS_33] at h | rw [pS_34] at h | rw [pS_35] at h | rw [pS_36] at h | rw [pS_37] at h | rw [pS_38] at h | rw [pS_39] at h | rw [pS_40] at h | rw [pS_41] at h | rw [pS_42] at h | rw [pS_43] at h | rw [pS_44] at h | rw [pS_45] at h | rw [pS_46] at h | rw [pS_47] at h | rw [pS_48] at h | rw [pS_49] at h | rw [pS_50] at h | rw [pS_51] at h | rw [pS_52] at h | rw [pS_53] at h | rw [pS_54] at h | rw [pS_55] at h | rw [pS_56] at h | rw [pS_57] at h | rw [pS_58] at h | rw [pS_59] at h | rw [pS_60] at h | rw [pS_61] at h | rw [pS_62] at h | rw [pS_63] at h | rw [pS_64] at h | rw [pS_65] at h | rw [pS_66] at h | rw [pS_67] at h)
      obtain ⟨tys, ws, -, -, -, -, hAs⟩ := hW
      have ha : a < 39 := (List.getElem?_eq_some_iff.mp hv).1
      have e1 : rv as (.ref (pSB + a)) = .ref (E.1 a) := congrArg Value.ref (hAs.1 a ha)
      have h2 := go _ _ h (okL_c.mpr ⟨Or.inr (Nat.le_add_right _ _), hst⟩)
      rw [List.map_cons, e1] at h2
      have hZ : vk_R (oS (mO M)) k (sTx.getD a "") (E.1 a) s := hE.2.1 a (mO M, k) hv
      exact va_ldcS (own := oS (mO M)) (tx := sTx.getD a "") (index := k) (q := E.1 a) hx hb hown hZ hd h2
  case ldc_w k =>
    simp only [ilen, Nat.beq_eq] at hlen
    simp only [okI, Bool.and_eq_true, Bool.or_eq_true, Nat.beq_eq, Nat.blt_eq, Nat.ble_eq, decide_eq_true_eq, beq_iff_eq] at hok
    subst hlen
    rcases hok with ⟨rfl, hv⟩ | ⟨rfl, hv⟩
    · (first | rw [pS_0] at h | rw [pS_1] at h | rw [pS_2] at h | rw [pS_3] at h | rw [pS_4] at h | rw [pS_5] at h | rw [pS_6] at h | rw [pS_7] at h | rw [pS_8] at h | rw [pS_9] at h | rw [pS_10] at h | rw [pS_11] at h | rw [pS_12] at h | rw [pS_13] at h | rw [pS_14] at h | rw [pS_15] at h | rw [pS_16] at h | rw [pS_17] at h | rw [pS_18] at h | rw [pS_19] at h | rw [pS_20] at h | rw [pS_21] at h | rw [pS_22] at h | rw [pS_23] at h | rw [pS_24] at h | rw [pS_25] at h | rw [pS_26] at h | rw [pS_27] at h | rw [pS_28] at h | rw [pS_29] at h | rw [pS_30] at h | rw [pS_31] at h | rw [pS_32] at h | rw [pS_33] at h | rw [pS_34] at h | rw [pS_35] at h | rw [pS_36] at h | rw [pS_37] at h | rw [pS_38] at h | rw [pS_39] at h | rw [pS_40] at h | rw [pS_41] at h | rw [pS_42] at h | rw [pS_43] at h | rw [pS_44] at h | rw [pS_45] at h | rw [pS_46] at h | rw [pS_47] at h | rw [pS_48] at h | rw [pS_49] at h | rw [pS_50] at h | rw [pS_51] at h | rw [pS_52] at h | rw [pS_53] at h | rw [pS_54] at h | rw [pS_55] at h | rw [pS_56] at h | rw [pS_57] at h | rw [pS_58] at h | rw [pS_59] at h | rw [pS_60] at h | rw [pS_61] at h | rw [pS_62] at h | rw [pS_63] at h | rw [pS_64] at h | rw [pS_65] at h | rw [pS_66] at h | rw [pS_67] at h)
      exact lv_ldcw hx hb hown (hts _ (CK_ok _ (List.contains_iff_mem.mp hv))) hd (go _ _ h (okL_c.mpr ⟨trivial, hst⟩))
    · (first | rw [pS_0] at h | rw [pS_1] at h | rw [pS_2] at h | rw [pS_3] at h | rw [pS_4] at h | rw [pS_5] at h | rw [pS_6] at h | rw [pS_7] at h | rw [pS_8] at h | rw [pS_9] at h | rw [pS_10] at h | rw [pS_11] at h | rw [pS_12] at h | rw [pS_13] at h | rw [pS_14] at h | rw [pS_15] at h | rw [pS_16] at h | rw [pS_17] at h | rw [pS_18] at h | rw [pS_19] at h | rw [pS_20] at h | rw [pS_21] at h | rw [pS_22] at h | rw [pS_23] at h | rw [pS_24] at h | rw [pS_25] at h | rw [pS_26] at h | rw [pS_27] at h | rw [pS_28] at h | rw [pS_29] at h | rw [pS_30] at h | rw [pS_31] at h | rw [pS_32] at h | rw [pS_33] at h | rw [pS_34] at h | rw [pS_35] at h | rw [pS_36] at h | rw [pS_37] at h | rw [pS_38] at h | rw [pS_39] at h | rw [pS_40] at h | rw [pS_41] at h | rw [pS_42] at h | rw [pS_43] at h | rw [pS_44] at h | rw [pS_45] at h | rw [pS_46] at h | rw [pS_47] at h | rw [pS_48] at h | rw [pS_49] at h | rw [pS_50] at h | rw [pS_51] at h | rw [pS_52] at h | rw [pS_53] at h | rw [pS_54] at h | rw [pS_55] at h | rw [pS_56] at h | rw [pS_57] at h | rw [pS_58] at h | rw [pS_59] at h | rw [pS_60] at h | rw [pS_61] at h | rw [pS_62] at h | rw [pS_63] at h | rw [pS_64] at h | rw [pS_65] at h | rw [pS_66] at h | rw [pS_67] at h)
      obtain ⟨tys, ws, -, -, -, -, hAs⟩ := hW
      have ha : a < 39 := (List.getElem?_eq_some_iff.mp hv).1
      have e1 : rv as (.ref (pSB + a)) = .ref (E.1 a) := congrArg Value.ref (hAs.1 a ha)
      have h2 := go _ _ h (okL_c.mpr ⟨Or.inr (Nat.le_add_right _ _), hst⟩)
      rw [List.map_cons, e1] at h2
      have hZ : vk_R (oS (mO M)) k (sTx.getD a "") (E.1 a) s := hE.2.1 a (mO M, k) hv
      exact my_ldcwS (own := oS (mO M)) (tx := sTx.getD a "") (index := k) (q := E.1 a) hx hb hown hZ hd h2
  case lconst v =>
    simp only [ilen, Nat.beq_eq] at hlen
    simp only [okI, Bool.and_eq_true, Bool.or_eq_true, Nat.beq_eq, Nat.blt_eq, Nat.ble_eq, decide_eq_true_eq, beq_iff_eq] at hok
    obtain ⟨rfl, rfl⟩ := hok
    subst hlen
    (first | rw [pS_0] at h | rw [pS_1] at h | rw [pS_2] at h | rw [pS_3] at h | rw [pS_4] at h | rw [pS_5] at h | rw [pS_6] at h | rw [pS_7] at h | rw [pS_8] at h | rw [pS_9] at h | rw [pS_10] at h | rw [pS_11] at h | rw [pS_12] at h | rw [pS_13] at h | rw [pS_14] at h | rw [pS_15] at h | rw [pS_16] at h | rw [pS_17] at h | rw [pS_18] at h | rw [pS_19] at h | rw [pS_20] at h | rw [pS_21] at h | rw [pS_22] at h | rw [pS_23] at h | rw [pS_24] at h | rw [pS_25] at h | rw [pS_26] at h | rw [pS_27] at h | rw [pS_28] at h | rw [pS_29] at h | rw [pS_30] at h | rw [pS_31] at h | rw [pS_32] at h | rw [pS_33] at h | rw [pS_34] at h | rw [pS_35] at h | rw [pS_36] at h | rw [pS_37] at h | rw [pS_38] at h | rw [pS_39] at h | rw [pS_40] at h | rw [pS_41] at h | rw [pS_42] at h | rw [pS_43] at h | rw [pS_44] at h | rw [pS_45] at h | rw [pS_46] at h | rw [pS_47] at h | rw [pS_48] at h | rw [pS_49] at h | rw [pS_50] at h | rw [pS_51] at h | rw [pS_52] at h | rw [pS_53] at h | rw [pS_54] at h | rw [pS_55] at h | rw [pS_56] at h | rw [pS_57] at h | rw [pS_58] at h | rw [pS_59] at h | rw [pS_60] at h | rw [pS_61] at h | rw [pS_62] at h | rw [pS_63] at h | rw [pS_64] at h | rw [pS_65] at h | rw [pS_66] at h | rw [pS_67] at h)
    exact lv_lconst hx hb hd (by cases v using Fin.cases <;> rfl) (go _ _ h (okL_c.mpr ⟨trivial, hst⟩))
  case ldc2_w k =>
    simp only [ilen, Nat.beq_eq] at hlen
    simp only [okI, Bool.and_eq_true, Bool.or_eq_true, Nat.beq_eq, Nat.blt_eq, Nat.ble_eq, decide_eq_true_eq, beq_iff_eq] at hok
    obtain ⟨rfl, hv⟩ := hok
    subst hlen
    (first | rw [pS_0] at h | rw [pS_1] at h | rw [pS_2] at h | rw [pS_3] at h | rw [pS_4] at h | rw [pS_5] at h | rw [pS_6] at h | rw [pS_7] at h | rw [pS_8] at h | rw [pS_9] at h | rw [pS_10] at h | rw [pS_11] at h | rw [pS_12] at h | rw [pS_13] at h | rw [pS_14] at h | rw [pS_15] at h | rw [pS_16] at h | rw [pS_17] at h | rw [pS_18] at h | rw [pS_19] at h | rw [pS_20] at h | rw [pS_21] at h | rw [pS_22] at h | rw [pS_23] at h | rw [pS_24] at h | rw [pS_25] at h | rw [pS_26] at h | rw [pS_27] at h | rw [pS_28] at h | rw [pS_29] at h | rw [pS_30] at h | rw [pS_31] at h | rw [pS_32] at h | rw [pS_33] at h | rw [pS_34] at h | rw [pS_35] at h | rw [pS_36] at h | rw [pS_37] at h | rw [pS_38] at h | rw [pS_39] at h | rw [pS_40] at h | rw [pS_41] at h | rw [pS_42] at h | rw [pS_43] at h | rw [pS_44] at h | rw [pS_45] at h | rw [pS_46] at h | rw [pS_47] at h | rw [pS_48] at h | rw [pS_49] at h | rw [pS_50] at h | rw [pS_51] at h | rw [pS_52] at h | rw [pS_53] at h | rw [pS_54] at h | rw [pS_55] at h | rw [pS_56] at h | rw [pS_57] at h | rw [pS_58] at h | rw [pS_59] at h | rw [pS_60] at h | rw [pS_61] at h | rw [pS_62] at h | rw [pS_63] at h | rw [pS_64] at h | rw [pS_65] at h | rw [pS_66] at h | rw [pS_67] at h)
    exact lv_ldc2 hx hb hown (hts _ (CJ_ok _ (List.contains_iff_mem.mp hv))) hd (go _ _ h (okL_c.mpr ⟨trivial, hst⟩))
  case iload k =>
    simp only [ilen, Nat.beq_eq] at hlen
    simp only [okI, Bool.and_eq_true, Bool.or_eq_true, Nat.beq_eq, Nat.blt_eq, Nat.ble_eq, decide_eq_true_eq, beq_iff_eq] at hok
    obtain ⟨rfl, rfl⟩ := hok
    subst hlen
    (first | rw [pS_0] at h | rw [pS_1] at h | rw [pS_2] at h | rw [pS_3] at h | rw [pS_4] at h | rw [pS_5] at h | rw [pS_6] at h | rw [pS_7] at h | rw [pS_8] at h | rw [pS_9] at h | rw [pS_10] at h | rw [pS_11] at h | rw [pS_12] at h | rw [pS_13] at h | rw [pS_14] at h | rw [pS_15] at h | rw [pS_16] at h | rw [pS_17] at h | rw [pS_18] at h | rw [pS_19] at h | rw [pS_20] at h | rw [pS_21] at h | rw [pS_22] at h | rw [pS_23] at h | rw [pS_24] at h | rw [pS_25] at h | rw [pS_26] at h | rw [pS_27] at h | rw [pS_28] at h | rw [pS_29] at h | rw [pS_30] at h | rw [pS_31] at h | rw [pS_32] at h | rw [pS_33] at h | rw [pS_34] at h | rw [pS_35] at h | rw [pS_36] at h | rw [pS_37] at h | rw [pS_38] at h | rw [pS_39] at h | rw [pS_40] at h | rw [pS_41] at h | rw [pS_42] at h | rw [pS_43] at h | rw [pS_44] at h | rw [pS_45] at h | rw [pS_46] at h | rw [pS_47] at h | rw [pS_48] at h | rw [pS_49] at h | rw [pS_50] at h | rw [pS_51] at h | rw [pS_52] at h | rw [pS_53] at h | rw [pS_54] at h | rw [pS_55] at h | rw [pS_56] at h | rw [pS_57] at h | rw [pS_58] at h | rw [pS_59] at h | rw [pS_60] at h | rw [pS_61] at h | rw [pS_62] at h | rw [pS_63] at h | rw [pS_64] at h | rw [pS_65] at h | rw [pS_66] at h | rw [pS_67] at h)
    (have h0 := tI_i h); clear h; obtain ⟨v, hv, h⟩ := h0
    exact lv_iload hx hb hd (hL.at hv (by intro e; cases e)) (go _ _ h (okL_c.mpr ⟨trivial, hst⟩))
  case iload_n k =>
    simp only [ilen, Nat.beq_eq] at hlen
    simp only [okI, Bool.and_eq_true, Bool.or_eq_true, Nat.beq_eq, Nat.blt_eq, Nat.ble_eq, decide_eq_true_eq, beq_iff_eq] at hok
    obtain ⟨rfl, rfl⟩ := hok
    subst hlen
    (first | rw [pS_0] at h | rw [pS_1] at h | rw [pS_2] at h | rw [pS_3] at h | rw [pS_4] at h | rw [pS_5] at h | rw [pS_6] at h | rw [pS_7] at h | rw [pS_8] at h | rw [pS_9] at h | rw [pS_10] at h | rw [pS_11] at h | rw [pS_12] at h | rw [pS_13] at h | rw [pS_14] at h | rw [pS_15] at h | rw [pS_16] at h | rw [pS_17] at h | rw [pS_18] at h | rw [pS_19] at h | rw [pS_20] at h | rw [pS_21] at h | rw [pS_22] at h | rw [pS_23] at h | rw [pS_24] at h | rw [pS_25] at h | rw [pS_26] at h | rw [pS_27] at h | rw [pS_28] at h | rw [pS_29] at h | rw [pS_30] at h | rw [pS_31] at h | rw [pS_32] at h | rw [pS_33] at h | rw [pS_34] at h | rw [pS_35] at h | rw [pS_36] at h | rw [pS_37] at h | rw [pS_38] at h | rw [pS_39] at h | rw [pS_40] at h | rw [pS_41] at h | rw [pS_42] at h | rw [pS_43] at h | rw [pS_44] at h | rw [pS_45] at h | rw [pS_46] at h | rw [pS_47] at h | rw [pS_48] at h | rw [pS_49] at h | rw [pS_50] at h | rw [pS_51] at h | rw [pS_52] at h | rw [pS_53] at h | rw [pS_54] at h | rw [pS_55] at h | rw [pS_56] at h | rw [pS_57] at h | rw [pS_58] at h | rw [pS_59] at h | rw [pS_60] at h | rw [pS_61] at h | rw [pS_62] at h | rw [pS_63] at h | rw [pS_64] at h | rw [pS_65] at h | rw [pS_66] at h | rw [pS_67] at h)
    (have h0 := tI_i h); clear h; obtain ⟨v, hv, h⟩ := h0
    exact lv_iload_n hx hb hd rfl (hL.at hv (by intro e; cases e)) (go _ _ h (okL_c.mpr ⟨trivial, hst⟩))
  case lload k =>
    simp only [ilen, Nat.beq_eq] at hlen
    simp only [okI, Bool.and_eq_true, Bool.or_eq_true, Nat.beq_eq, Nat.blt_eq, Nat.ble_eq, decide_eq_true_eq, beq_iff_eq] at hok
    obtain ⟨rfl, rfl⟩ := hok
    subst hlen
    (first | rw [pS_0] at h | rw [pS_1] at h | rw [pS_2] at h | rw [pS_3] at h | rw [pS_4] at h | rw [pS_5] at h | rw [pS_6] at h | rw [pS_7] at h | rw [pS_8] at h | rw [pS_9] at h | rw [pS_10] at h | rw [pS_11] at h | rw [pS_12] at h | rw [pS_13] at h | rw [pS_14] at h | rw [pS_15] at h | rw [pS_16] at h | rw [pS_17] at h | rw [pS_18] at h | rw [pS_19] at h | rw [pS_20] at h | rw [pS_21] at h | rw [pS_22] at h | rw [pS_23] at h | rw [pS_24] at h | rw [pS_25] at h | rw [pS_26] at h | rw [pS_27] at h | rw [pS_28] at h | rw [pS_29] at h | rw [pS_30] at h | rw [pS_31] at h | rw [pS_32] at h | rw [pS_33] at h | rw [pS_34] at h | rw [pS_35] at h | rw [pS_36] at h | rw [pS_37] at h | rw [pS_38] at h | rw [pS_39] at h | rw [pS_40] at h | rw [pS_41] at h | rw [pS_42] at h | rw [pS_43] at h | rw [pS_44] at h | rw [pS_45] at h | rw [pS_46] at h | rw [pS_47] at h | rw [pS_48] at h | rw [pS_49] at h | rw [pS_50] at h | rw [pS_51] at h | rw [pS_52] at h | rw [pS_53] at h | rw [pS_54] at h | rw [pS_55] at h | rw [pS_56] at h | rw [pS_57] at h | rw [pS_58] at h | rw [pS_59] at h | rw [pS_60] at h | rw [pS_61] at h | rw [pS_62] at h | rw [pS_63] at h | rw [pS_64] at h | rw [pS_65] at h | rw [pS_66] at h | rw [pS_67] at h)
    (have h0 := tJ_i h); clear h; obtain ⟨v, hv, h⟩ := h0
    exact lv_lload hx hb hd (hL.at hv (by intro e; cases e)) (go _ _ h (okL_c.mpr ⟨trivial, hst⟩))
  case lload_n k =>
    simp only [ilen, Nat.beq_eq] at hlen
    simp only [okI, Bool.and_eq_true, Bool.or_eq_true, Nat.beq_eq, Nat.blt_eq, Nat.ble_eq, decide_eq_true_eq, beq_iff_eq] at hok
    obtain ⟨rfl, rfl⟩ := hok
    subst hlen
    (first | rw [pS_0] at h | rw [pS_1] at h | rw [pS_2] at h | rw [pS_3] at h | rw [pS_4] at h | rw [pS_5] at h | rw [pS_6] at h | rw [pS_7] at h | rw [pS_8] at h | rw [pS_9] at h | rw [pS_10] at h | rw [pS_11] at h | rw [pS_12] at h | rw [pS_13] at h | rw [pS_14] at h | rw [pS_15] at h | rw [pS_16] at h | rw [pS_17] at h | rw [pS_18] at h | rw [pS_19] at h | rw [pS_20] at h | rw [pS_21] at h | rw [pS_22] at h | rw [pS_23] at h | rw [pS_24] at h | rw [pS_25] at h | rw [pS_26] at h | rw [pS_27] at h | rw [pS_28] at h | rw [pS_29] at h | rw [pS_30] at h | rw [pS_31] at h | rw [pS_32] at h | rw [pS_33] at h | rw [pS_34] at h | rw [pS_35] at h | rw [pS_36] at h | rw [pS_37] at h | rw [pS_38] at h | rw [pS_39] at h | rw [pS_40] at h | rw [pS_41] at h | rw [pS_42] at h | rw [pS_43] at h | rw [pS_44] at h | rw [pS_45] at h | rw [pS_46] at h | rw [pS_47] at h | rw [pS_48] at h | rw [pS_49] at h | rw [pS_50] at h | rw [pS_51] at h | rw [pS_52] at h | rw [pS_53] at h | rw [pS_54] at h | rw [pS_55] at h | rw [pS_56] at h | rw [pS_57] at h | rw [pS_58] at h | rw [pS_59] at h | rw [pS_60] at h | rw [pS_61] at h | rw [pS_62] at h | rw [pS_63] at h | rw [pS_64] at h | rw [pS_65] at h | rw [pS_66] at h | rw [pS_67] at h)
    (have h0 := tJ_i h); clear h; obtain ⟨v, hv, h⟩ := h0
    exact lv_lload_n hx hb hd rfl (hL.at hv (by intro e; cases e)) (go _ _ h (okL_c.mpr ⟨trivial, hst⟩))
  case aload k =>
    simp only [ilen, Nat.beq_eq] at hlen
    simp only [okI, Bool.and_eq_true, Bool.or_eq_true, Nat.beq_eq, Nat.blt_eq, Nat.ble_eq, decide_eq_true_eq, beq_iff_eq] at hok
    obtain ⟨rfl, rfl⟩ := hok
    subst hlen
    (first | rw [pS_0] at h | rw [pS_1] at h | rw [pS_2] at h | rw [pS_3] at h | rw [pS_4] at h | rw [pS_5] at h | rw [pS_6] at h | rw [pS_7] at h | rw [pS_8] at h | rw [pS_9] at h | rw [pS_10] at h | rw [pS_11] at h | rw [pS_12] at h | rw [pS_13] at h | rw [pS_14] at h | rw [pS_15] at h | rw [pS_16] at h | rw [pS_17] at h | rw [pS_18] at h | rw [pS_19] at h | rw [pS_20] at h | rw [pS_21] at h | rw [pS_22] at h | rw [pS_23] at h | rw [pS_24] at h | rw [pS_25] at h | rw [pS_26] at h | rw [pS_27] at h | rw [pS_28] at h | rw [pS_29] at h | rw [pS_30] at h | rw [pS_31] at h | rw [pS_32] at h | rw [pS_33] at h | rw [pS_34] at h | rw [pS_35] at h | rw [pS_36] at h | rw [pS_37] at h | rw [pS_38] at h | rw [pS_39] at h | rw [pS_40] at h | rw [pS_41] at h | rw [pS_42] at h | rw [pS_43] at h | rw [pS_44] at h | rw [pS_45] at h | rw [pS_46] at h | rw [pS_47] at h | rw [pS_48] at h | rw [pS_49] at h | rw [pS_50] at h | rw [pS_51] at h | rw [pS_52] at h | rw [pS_53] at h | rw [pS_54] at h | rw [pS_55] at h | rw [pS_56] at h | rw [pS_57] at h | rw [pS_58] at h | rw [pS_59] at h | rw [pS_60] at h | rw [pS_61] at h | rw [pS_62] at h | rw [pS_63] at h | rw [pS_64] at h | rw [pS_65] at h | rw [pS_66] at h | rw [pS_67] at h)
    (have h0 := tA_i h); clear h; obtain ⟨v, hv, h⟩ := h0
    cases v with
    | none => exact lv_aloadN hx hb hd (hL.at hv (by intro e; cases e)) (go _ _ h (okL_c.mpr ⟨trivial, hst⟩))
    | some q => exact lv_aload hx hb hd (hL.at hv (by intro e; cases e)) (go _ _ h (okL_c.mpr ⟨okL_get hls hv, hst⟩))
  case aload_n k =>
    simp only [ilen, Nat.beq_eq] at hlen
    simp only [okI, Bool.and_eq_true, Bool.or_eq_true, Nat.beq_eq, Nat.blt_eq, Nat.ble_eq, decide_eq_true_eq, beq_iff_eq] at hok
    obtain ⟨rfl, rfl⟩ := hok
    subst hlen
    (first | rw [pS_0] at h | rw [pS_1] at h | rw [pS_2] at h | rw [pS_3] at h | rw [pS_4] at h | rw [pS_5] at h | rw [pS_6] at h | rw [pS_7] at h | rw [pS_8] at h | rw [pS_9] at h | rw [pS_10] at h | rw [pS_11] at h | rw [pS_12] at h | rw [pS_13] at h | rw [pS_14] at h | rw [pS_15] at h | rw [pS_16] at h | rw [pS_17] at h | rw [pS_18] at h | rw [pS_19] at h | rw [pS_20] at h | rw [pS_21] at h | rw [pS_22] at h | rw [pS_23] at h | rw [pS_24] at h | rw [pS_25] at h | rw [pS_26] at h | rw [pS_27] at h | rw [pS_28] at h | rw [pS_29] at h | rw [pS_30] at h | rw [pS_31] at h | rw [pS_32] at h | rw [pS_33] at h | rw [pS_34] at h | rw [pS_35] at h | rw [pS_36] at h | rw [pS_37] at h | rw [pS_38] at h | rw [pS_39] at h | rw [pS_40] at h | rw [pS_41] at h | rw [pS_42] at h | rw [pS_43] at h | rw [pS_44] at h | rw [pS_45] at h | rw [pS_46] at h | rw [pS_47] at h | rw [pS_48] at h | rw [pS_49] at h | rw [pS_50] at h | rw [pS_51] at h | rw [pS_52] at h | rw [pS_53] at h | rw [pS_54] at h | rw [pS_55] at h | rw [pS_56] at h | rw [pS_57] at h | rw [pS_58] at h | rw [pS_59] at h | rw [pS_60] at h | rw [pS_61] at h | rw [pS_62] at h | rw [pS_63] at h | rw [pS_64] at h | rw [pS_65] at h | rw [pS_66] at h | rw [pS_67] at h)
    (have h0 := tA_i h); clear h; obtain ⟨v, hv, h⟩ := h0
    cases v with
    | none => exact lv_aload_nN hx hb hd rfl (hL.at hv (by intro e; cases e)) (go _ _ h (okL_c.mpr ⟨trivial, hst⟩))
    | some q => exact lv_aload_n hx hb hd rfl (hL.at hv (by intro e; cases e)) (go _ _ h (okL_c.mpr ⟨okL_get hls hv, hst⟩))
  case istore k =>
    simp only [ilen, Nat.beq_eq] at hlen
    simp only [okI, Bool.and_eq_true, Bool.or_eq_true, Nat.beq_eq, Nat.blt_eq, Nat.ble_eq, decide_eq_true_eq, beq_iff_eq] at hok
    obtain ⟨⟨⟨⟨rfl, rfl⟩, hi⟩, hj⟩, hb1⟩ := hok
    subst hlen
    (first | rw [pS_0] at h | rw [pS_1] at h | rw [pS_2] at h | rw [pS_3] at h | rw [pS_4] at h | rw [pS_5] at h | rw [pS_6] at h | rw [pS_7] at h | rw [pS_8] at h | rw [pS_9] at h | rw [pS_10] at h | rw [pS_11] at h | rw [pS_12] at h | rw [pS_13] at h | rw [pS_14] at h | rw [pS_15] at h | rw [pS_16] at h | rw [pS_17] at h | rw [pS_18] at h | rw [pS_19] at h | rw [pS_20] at h | rw [pS_21] at h | rw [pS_22] at h | rw [pS_23] at h | rw [pS_24] at h | rw [pS_25] at h | rw [pS_26] at h | rw [pS_27] at h | rw [pS_28] at h | rw [pS_29] at h | rw [pS_30] at h | rw [pS_31] at h | rw [pS_32] at h | rw [pS_33] at h | rw [pS_34] at h | rw [pS_35] at h | rw [pS_36] at h | rw [pS_37] at h | rw [pS_38] at h | rw [pS_39] at h | rw [pS_40] at h | rw [pS_41] at h | rw [pS_42] at h | rw [pS_43] at h | rw [pS_44] at h | rw [pS_45] at h | rw [pS_46] at h | rw [pS_47] at h | rw [pS_48] at h | rw [pS_49] at h | rw [pS_50] at h | rw [pS_51] at h | rw [pS_52] at h | rw [pS_53] at h | rw [pS_54] at h | rw [pS_55] at h | rw [pS_56] at h | rw [pS_57] at h | rw [pS_58] at h | rw [pS_59] at h | rw [pS_60] at h | rw [pS_61] at h | rw [pS_62] at h | rw [pS_63] at h | rw [pS_64] at h | rw [pS_65] at h | rw [pS_66] at h | rw [pS_67] at h)
    (have h0 := kI_i h); clear h; obtain ⟨v, r, rfl, h⟩ := h0
    exact lv_istore hx hb hd hL.has hi rfl (fun ls' h' => goL _ _ _ _ h (hL.st1 hj hb1 hi (fun _ e => by cases e) (fun _ e => by cases e) (fun e => by cases e) h') (okL_st hls trivial) (okL_c.mp hst).2)
  case istore_n k =>
    simp only [ilen, Nat.beq_eq] at hlen
    simp only [okI, Bool.and_eq_true, Bool.or_eq_true, Nat.beq_eq, Nat.blt_eq, Nat.ble_eq, decide_eq_true_eq, beq_iff_eq] at hok
    obtain ⟨⟨⟨⟨rfl, rfl⟩, hi⟩, hj⟩, hb1⟩ := hok
    subst hlen
    (first | rw [pS_0] at h | rw [pS_1] at h | rw [pS_2] at h | rw [pS_3] at h | rw [pS_4] at h | rw [pS_5] at h | rw [pS_6] at h | rw [pS_7] at h | rw [pS_8] at h | rw [pS_9] at h | rw [pS_10] at h | rw [pS_11] at h | rw [pS_12] at h | rw [pS_13] at h | rw [pS_14] at h | rw [pS_15] at h | rw [pS_16] at h | rw [pS_17] at h | rw [pS_18] at h | rw [pS_19] at h | rw [pS_20] at h | rw [pS_21] at h | rw [pS_22] at h | rw [pS_23] at h | rw [pS_24] at h | rw [pS_25] at h | rw [pS_26] at h | rw [pS_27] at h | rw [pS_28] at h | rw [pS_29] at h | rw [pS_30] at h | rw [pS_31] at h | rw [pS_32] at h | rw [pS_33] at h | rw [pS_34] at h | rw [pS_35] at h | rw [pS_36] at h | rw [pS_37] at h | rw [pS_38] at h | rw [pS_39] at h | rw [pS_40] at h | rw [pS_41] at h | rw [pS_42] at h | rw [pS_43] at h | rw [pS_44] at h | rw [pS_45] at h | rw [pS_46] at h | rw [pS_47] at h | rw [pS_48] at h | rw [pS_49] at h | rw [pS_50] at h | rw [pS_51] at h | rw [pS_52] at h | rw [pS_53] at h | rw [pS_54] at h | rw [pS_55] at h | rw [pS_56] at h | rw [pS_57] at h | rw [pS_58] at h | rw [pS_59] at h | rw [pS_60] at h | rw [pS_61] at h | rw [pS_62] at h | rw [pS_63] at h | rw [pS_64] at h | rw [pS_65] at h | rw [pS_66] at h | rw [pS_67] at h)
    (have h0 := kI_i h); clear h; obtain ⟨v, r, rfl, h⟩ := h0
    exact lv_istore_n hx hb hd rfl hL.has hi rfl (fun ls' h' => goL _ _ _ _ h (hL.st1 hj hb1 hi (fun _ e => by cases e) (fun _ e => by cases e) (fun e => by cases e) h') (okL_st hls trivial) (okL_c.mp hst).2)
  case astore k =>
    simp only [ilen, Nat.beq_eq] at hlen
    simp only [okI, Bool.and_eq_true, Bool.or_eq_true, Nat.beq_eq, Nat.blt_eq, Nat.ble_eq, decide_eq_true_eq, beq_iff_eq] at hok
    obtain ⟨⟨⟨⟨rfl, rfl⟩, hi⟩, hj⟩, hb1⟩ := hok
    subst hlen
    (first | rw [pS_0] at h | rw [pS_1] at h | rw [pS_2] at h | rw [pS_3] at h | rw [pS_4] at h | rw [pS_5] at h | rw [pS_6] at h | rw [pS_7] at h | rw [pS_8] at h | rw [pS_9] at h | rw [pS_10] at h | rw [pS_11] at h | rw [pS_12] at h | rw [pS_13] at h | rw [pS_14] at h | rw [pS_15] at h | rw [pS_16] at h | rw [pS_17] at h | rw [pS_18] at h | rw [pS_19] at h | rw [pS_20] at h | rw [pS_21] at h | rw [pS_22] at h | rw [pS_23] at h | rw [pS_24] at h | rw [pS_25] at h | rw [pS_26] at h | rw [pS_27] at h | rw [pS_28] at h | rw [pS_29] at h | rw [pS_30] at h | rw [pS_31] at h | rw [pS_32] at h | rw [pS_33] at h | rw [pS_34] at h | rw [pS_35] at h | rw [pS_36] at h | rw [pS_37] at h | rw [pS_38] at h | rw [pS_39] at h | rw [pS_40] at h | rw [pS_41] at h | rw [pS_42] at h | rw [pS_43] at h | rw [pS_44] at h | rw [pS_45] at h | rw [pS_46] at h | rw [pS_47] at h | rw [pS_48] at h | rw [pS_49] at h | rw [pS_50] at h | rw [pS_51] at h | rw [pS_52] at h | rw [pS_53] at h | rw [pS_54] at h | rw [pS_55] at h | rw [pS_56] at h | rw [pS_57] at h | rw [pS_58] at h | rw [pS_59] at h | rw [pS_60] at h | rw [pS_61] at h | rw [pS_62] at h | rw [pS_63] at h | rw [pS_64] at h | rw [pS_65] at h | rw [pS_66] at h | rw [pS_67] at h)
    (have h0 := kAn_i h); clear h; obtain ⟨v, r, rfl, h⟩ := h0
    cases v with
    | none => exact lv_astoreN hx hb hd hL.has hi rfl (fun ls' h' => goL _ _ _ _ h (hL.st1 (v := .null) hj hb1 hi (fun _ e => by cases e) (fun _ e => by cases e) (fun e => by cases e) h') (okL_st hls trivial) (okL_c.mp hst).2)
    | some q => exact lv_astore hx hb hd hL.has hi rfl (fun ls' h' => goL _ _ _ _ h (hL.st1 (v := .ref q) hj hb1 hi (fun _ e => by cases e) (fun _ e => by cases e) (fun e => by cases e) h') (okL_st hls (okL_c.mp hst).1) (okL_c.mp hst).2)
  case astore_n k =>
    simp only [ilen, Nat.beq_eq] at hlen
    simp only [okI, Bool.and_eq_true, Bool.or_eq_true, Nat.beq_eq, Nat.blt_eq, Nat.ble_eq, decide_eq_true_eq, beq_iff_eq] at hok
    obtain ⟨⟨⟨⟨rfl, rfl⟩, hi⟩, hj⟩, hb1⟩ := hok
    subst hlen
    (first | rw [pS_0] at h | rw [pS_1] at h | rw [pS_2] at h | rw [pS_3] at h | rw [pS_4] at h | rw [pS_5] at h | rw [pS_6] at h | rw [pS_7] at h | rw [pS_8] at h | rw [pS_9] at h | rw [pS_10] at h | rw [pS_11] at h | rw [pS_12] at h | rw [pS_13] at h | rw [pS_14] at h | rw [pS_15] at h | rw [pS_16] at h | rw [pS_17] at h | rw [pS_18] at h | rw [pS_19] at h | rw [pS_20] at h | rw [pS_21] at h | rw [pS_22] at h | rw [pS_23] at h | rw [pS_24] at h | rw [pS_25] at h | rw [pS_26] at h | rw [pS_27] at h | rw [pS_28] at h | rw [pS_29] at h | rw [pS_30] at h | rw [pS_31] at h | rw [pS_32] at h | rw [pS_33] at h | rw [pS_34] at h | rw [pS_35] at h | rw [pS_36] at h | rw [pS_37] at h | rw [pS_38] at h | rw [pS_39] at h | rw [pS_40] at h | rw [pS_41] at h | rw [pS_42] at h | rw [pS_43] at h | rw [pS_44] at h | rw [pS_45] at h | rw [pS_46] at h | rw [pS_47] at h | rw [pS_48] at h | rw [pS_49] at h | rw [pS_50] at h | rw [pS_51] at h | rw [pS_52] at h | rw [pS_53] at h | rw [pS_54] at h | rw [pS_55] at h | rw [pS_56] at h | rw [pS_57] at h | rw [pS_58] at h | rw [pS_59] at h | rw [pS_60] at h | rw [pS_61] at h | rw [pS_62] at h | rw [pS_63] at h | rw [pS_64] at h | rw [pS_65] at h | rw [pS_66] at h | rw [pS_67] at h)
    (have h0 := kAn_i h); clear h; obtain ⟨v, r, rfl, h⟩ := h0
    cases v with
    | none => exact lv_astore_nN hx hb hd rfl hL.has hi rfl (fun ls' h' => goL _ _ _ _ h (hL.st1 (v := .null) hj hb1 hi (fun _ e => by cases e) (fun _ e => by cases e) (fun e => by cases e) h') (okL_st hls trivial) (okL_c.mp hst).2)
    | some q => exact lv_astore_n hx hb hd rfl hL.has hi rfl (fun ls' h' => goL _ _ _ _ h (hL.st1 (v := .ref q) hj hb1 hi (fun _ e => by cases e) (fun _ e => by cases e) (fun e => by cases e) h') (okL_st hls (okL_c.mp hst).1) (okL_c.mp hst).2)
  case lstore k =>
    simp only [ilen, Nat.beq_eq] at hlen
    simp only [okI, Bool.and_eq_true, Bool.or_eq_true, Nat.beq_eq, Nat.blt_eq, Nat.ble_eq, decide_eq_true_eq, beq_iff_eq] at hok
    obtain ⟨⟨⟨rfl, rfl⟩, hi⟩, hj⟩ := hok
    subst hlen
    (first | rw [pS_0] at h | rw [pS_1] at h | rw [pS_2] at h | rw [pS_3] at h | rw [pS_4] at h | rw [pS_5] at h | rw [pS_6] at h | rw [pS_7] at h | rw [pS_8] at h | rw [pS_9] at h | rw [pS_10] at h | rw [pS_11] at h | rw [pS_12] at h | rw [pS_13] at h | rw [pS_14] at h | rw [pS_15] at h | rw [pS_16] at h | rw [pS_17] at h | rw [pS_18] at h | rw [pS_19] at h | rw [pS_20] at h | rw [pS_21] at h | rw [pS_22] at h | rw [pS_23] at h | rw [pS_24] at h | rw [pS_25] at h | rw [pS_26] at h | rw [pS_27] at h | rw [pS_28] at h | rw [pS_29] at h | rw [pS_30] at h | rw [pS_31] at h | rw [pS_32] at h | rw [pS_33] at h | rw [pS_34] at h | rw [pS_35] at h | rw [pS_36] at h | rw [pS_37] at h | rw [pS_38] at h | rw [pS_39] at h | rw [pS_40] at h | rw [pS_41] at h | rw [pS_42] at h | rw [pS_43] at h | rw [pS_44] at h | rw [pS_45] at h | rw [pS_46] at h | rw [pS_47] at h | rw [pS_48] at h | rw [pS_49] at h | rw [pS_50] at h | rw [pS_51] at h | rw [pS_52] at h | rw [pS_53] at h | rw [pS_54] at h | rw [pS_55] at h | rw [pS_56] at h | rw [pS_57] at h | rw [pS_58] at h | rw [pS_59] at h | rw [pS_60] at h | rw [pS_61] at h | rw [pS_62] at h | rw [pS_63] at h | rw [pS_64] at h | rw [pS_65] at h | rw [pS_66] at h | rw [pS_67] at h)
    (have h0 := kJ_i h); clear h; obtain ⟨v, r, rfl, h⟩ := h0
    rw [hj] at hL goL
    exact lv_lstore hx hb hd hL.has hi rfl (fun ls' h' => goL _ _ _ _ h (hL.st2 hi h') (okL_st2 hls trivial) (okL_c.mp hst).2)
  case lstore_n k =>
    simp only [ilen, Nat.beq_eq] at hlen
    simp only [okI, Bool.and_eq_true, Bool.or_eq_true, Nat.beq_eq, Nat.blt_eq, Nat.ble_eq, decide_eq_true_eq, beq_iff_eq] at hok
    obtain ⟨⟨⟨rfl, rfl⟩, hi⟩, hj⟩ := hok
    subst hlen
    (first | rw [pS_0] at h | rw [pS_1] at h | rw [pS_2] at h | rw [pS_3] at h | rw [pS_4] at h | rw [pS_5] at h | rw [pS_6] at h | rw [pS_7] at h | rw [pS_8] at h | rw [pS_9] at h | rw [pS_10] at h | rw [pS_11] at h | rw [pS_12] at h | rw [pS_13] at h | rw [pS_14] at h | rw [pS_15] at h | rw [pS_16] at h | rw [pS_17] at h | rw [pS_18] at h | rw [pS_19] at h | rw [pS_20] at h | rw [pS_21] at h | rw [pS_22] at h | rw [pS_23] at h | rw [pS_24] at h | rw [pS_25] at h | rw [pS_26] at h | rw [pS_27] at h | rw [pS_28] at h | rw [pS_29] at h | rw [pS_30] at h | rw [pS_31] at h | rw [pS_32] at h | rw [pS_33] at h | rw [pS_34] at h | rw [pS_35] at h | rw [pS_36] at h | rw [pS_37] at h | rw [pS_38] at h | rw [pS_39] at h | rw [pS_40] at h | rw [pS_41] at h | rw [pS_42] at h | rw [pS_43] at h | rw [pS_44] at h | rw [pS_45] at h | rw [pS_46] at h | rw [pS_47] at h | rw [pS_48] at h | rw [pS_49] at h | rw [pS_50] at h | rw [pS_51] at h | rw [pS_52] at h | rw [pS_53] at h | rw [pS_54] at h | rw [pS_55] at h | rw [pS_56] at h | rw [pS_57] at h | rw [pS_58] at h | rw [pS_59] at h | rw [pS_60] at h | rw [pS_61] at h | rw [pS_62] at h | rw [pS_63] at h | rw [pS_64] at h | rw [pS_65] at h | rw [pS_66] at h | rw [pS_67] at h)
    (have h0 := kJ_i h); clear h; obtain ⟨v, r, rfl, h⟩ := h0
    rw [hj] at hL goL
    exact lv_lstore_n hx hb hd rfl hL.has hi rfl (fun ls' h' => goL _ _ _ _ h (hL.st2 hi h') (okL_st2 hls trivial) (okL_c.mp hst).2)
  case iinc k zz =>
    simp only [ilen, Nat.beq_eq] at hlen
    simp only [okI, Bool.and_eq_true, Bool.or_eq_true, Nat.beq_eq, Nat.blt_eq, Nat.ble_eq, decide_eq_true_eq, beq_iff_eq] at hok
    obtain ⟨⟨⟨⟨⟨rfl, rfl⟩, rfl⟩, hi⟩, hj⟩, hb1⟩ := hok
    subst hlen
    (first | rw [pS_0] at h | rw [pS_1] at h | rw [pS_2] at h | rw [pS_3] at h | rw [pS_4] at h | rw [pS_5] at h | rw [pS_6] at h | rw [pS_7] at h | rw [pS_8] at h | rw [pS_9] at h | rw [pS_10] at h | rw [pS_11] at h | rw [pS_12] at h | rw [pS_13] at h | rw [pS_14] at h | rw [pS_15] at h | rw [pS_16] at h | rw [pS_17] at h | rw [pS_18] at h | rw [pS_19] at h | rw [pS_20] at h | rw [pS_21] at h | rw [pS_22] at h | rw [pS_23] at h | rw [pS_24] at h | rw [pS_25] at h | rw [pS_26] at h | rw [pS_27] at h | rw [pS_28] at h | rw [pS_29] at h | rw [pS_30] at h | rw [pS_31] at h | rw [pS_32] at h | rw [pS_33] at h | rw [pS_34] at h | rw [pS_35] at h | rw [pS_36] at h | rw [pS_37] at h | rw [pS_38] at h | rw [pS_39] at h | rw [pS_40] at h | rw [pS_41] at h | rw [pS_42] at h | rw [pS_43] at h | rw [pS_44] at h | rw [pS_45] at h | rw [pS_46] at h | rw [pS_47] at h | rw [pS_48] at h | rw [pS_49] at h | rw [pS_50] at h | rw [pS_51] at h | rw [pS_52] at h | rw [pS_53] at h | rw [pS_54] at h | rw [pS_55] at h | rw [pS_56] at h | rw [pS_57] at h | rw [pS_58] at h | rw [pS_59] at h | rw [pS_60] at h | rw [pS_61] at h | rw [pS_62] at h | rw [pS_63] at h | rw [pS_64] at h | rw [pS_65] at h | rw [pS_66] at h | rw [pS_67] at h)
    (have h0 := tI_i h); clear h; obtain ⟨v, hv, h⟩ := h0
    obtain ⟨kk, hkk⟩ := mem_ix (lvP_mem.mpr ⟨_, hv, (by intro e; cases e), rfl⟩ : (_, rv as (.int v)) ∈ lvP as ls)
    exact lv_iinc hx hb hd hL.has hkk rfl hi rfl (fun ls' h' => goL _ _ _ _ h (hL.st1 hj hb1 hi (fun _ e => by cases e) (fun _ e => by cases e) (fun e => by cases e) h') (okL_st hls trivial) hst)
  case iadd =>
    simp only [ilen, Nat.beq_eq] at hlen
    simp only [okI, Bool.and_eq_true, Bool.or_eq_true, Nat.beq_eq, Nat.blt_eq, Nat.ble_eq, decide_eq_true_eq, beq_iff_eq] at hok
    obtain ⟨rfl, rfl⟩ := hok
    subst hlen
    (first | rw [pS_0] at h | rw [pS_1] at h | rw [pS_2] at h | rw [pS_3] at h | rw [pS_4] at h | rw [pS_5] at h | rw [pS_6] at h | rw [pS_7] at h | rw [pS_8] at h | rw [pS_9] at h | rw [pS_10] at h | rw [pS_11] at h | rw [pS_12] at h | rw [pS_13] at h | rw [pS_14] at h | rw [pS_15] at h | rw [pS_16] at h | rw [pS_17] at h | rw [pS_18] at h | rw [pS_19] at h | rw [pS_20] at h | rw [pS_21] at h | rw [pS_22] at h | rw [pS_23] at h | rw [pS_24] at h | rw [pS_25] at h | rw [pS_26] at h | rw [pS_27] at h | rw [pS_28] at h | rw [pS_29] at h | rw [pS_30] at h | rw [pS_31] at h | rw [pS_32] at h | rw [pS_33] at h | rw [pS_34] at h | rw [pS_35] at h | rw [pS_36] at h | rw [pS_37] at h | rw [pS_38] at h | rw [pS_39] at h | rw [pS_40] at h | rw [pS_41] at h | rw [pS_42] at h | rw [pS_43] at h | rw [pS_44] at h | rw [pS_45] at h | rw [pS_46] at h | rw [pS_47] at h | rw [pS_48] at h | rw [pS_49] at h | rw [pS_50] at h | rw [pS_51] at h | rw [pS_52] at h | rw [pS_53] at h | rw [pS_54] at h | rw [pS_55] at h | rw [pS_56] at h | rw [pS_57] at h | rw [pS_58] at h | rw [pS_59] at h | rw [pS_60] at h | rw [pS_61] at h | rw [pS_62] at h | rw [pS_63] at h | rw [pS_64] at h | rw [pS_65] at h | rw [pS_66] at h | rw [pS_67] at h)
    (have h0 := kII_i h); clear h; obtain ⟨v, w, r, rfl, h⟩ := h0
    have hr2 := (okL_c.mp (okL_c.mp hst).2).2
    exact lv_iadd hx hb hd (go _ _ h (okL_c.mpr ⟨trivial, hr2⟩))
  case isub =>
    simp only [ilen, Nat.beq_eq] at hlen
    simp only [okI, Bool.and_eq_true, Bool.or_eq_true, Nat.beq_eq, Nat.blt_eq, Nat.ble_eq, decide_eq_true_eq, beq_iff_eq] at hok
    obtain ⟨rfl, rfl⟩ := hok
    subst hlen
    (first | rw [pS_0] at h | rw [pS_1] at h | rw [pS_2] at h | rw [pS_3] at h | rw [pS_4] at h | rw [pS_5] at h | rw [pS_6] at h | rw [pS_7] at h | rw [pS_8] at h | rw [pS_9] at h | rw [pS_10] at h | rw [pS_11] at h | rw [pS_12] at h | rw [pS_13] at h | rw [pS_14] at h | rw [pS_15] at h | rw [pS_16] at h | rw [pS_17] at h | rw [pS_18] at h | rw [pS_19] at h | rw [pS_20] at h | rw [pS_21] at h | rw [pS_22] at h | rw [pS_23] at h | rw [pS_24] at h | rw [pS_25] at h | rw [pS_26] at h | rw [pS_27] at h | rw [pS_28] at h | rw [pS_29] at h | rw [pS_30] at h | rw [pS_31] at h | rw [pS_32] at h | rw [pS_33] at h | rw [pS_34] at h | rw [pS_35] at h | rw [pS_36] at h | rw [pS_37] at h | rw [pS_38] at h | rw [pS_39] at h | rw [pS_40] at h | rw [pS_41] at h | rw [pS_42] at h | rw [pS_43] at h | rw [pS_44] at h | rw [pS_45] at h | rw [pS_46] at h | rw [pS_47] at h | rw [pS_48] at h | rw [pS_49] at h | rw [pS_50] at h | rw [pS_51] at h | rw [pS_52] at h | rw [pS_53] at h | rw [pS_54] at h | rw [pS_55] at h | rw [pS_56] at h | rw [pS_57] at h | rw [pS_58] at h | rw [pS_59] at h | rw [pS_60] at h | rw [pS_61] at h | rw [pS_62] at h | rw [pS_63] at h | rw [pS_64] at h | rw [pS_65] at h | rw [pS_66] at h | rw [pS_67] at h)
    (have h0 := kII_i h); clear h; obtain ⟨v, w, r, rfl, h⟩ := h0
    have hr2 := (okL_c.mp (okL_c.mp hst).2).2
    exact lv_isub hx hb hd (go _ _ h (okL_c.mpr ⟨trivial, hr2⟩))
  case imul =>
    simp only [ilen, Nat.beq_eq] at hlen
    simp only [okI, Bool.and_eq_true, Bool.or_eq_true, Nat.beq_eq, Nat.blt_eq, Nat.ble_eq, decide_eq_true_eq, beq_iff_eq] at hok
    obtain ⟨rfl, rfl⟩ := hok
    subst hlen
    (first | rw [pS_0] at h | rw [pS_1] at h | rw [pS_2] at h | rw [pS_3] at h | rw [pS_4] at h | rw [pS_5] at h | rw [pS_6] at h | rw [pS_7] at h | rw [pS_8] at h | rw [pS_9] at h | rw [pS_10] at h | rw [pS_11] at h | rw [pS_12] at h | rw [pS_13] at h | rw [pS_14] at h | rw [pS_15] at h | rw [pS_16] at h | rw [pS_17] at h | rw [pS_18] at h | rw [pS_19] at h | rw [pS_20] at h | rw [pS_21] at h | rw [pS_22] at h | rw [pS_23] at h | rw [pS_24] at h | rw [pS_25] at h | rw [pS_26] at h | rw [pS_27] at h | rw [pS_28] at h | rw [pS_29] at h | rw [pS_30] at h | rw [pS_31] at h | rw [pS_32] at h | rw [pS_33] at h | rw [pS_34] at h | rw [pS_35] at h | rw [pS_36] at h | rw [pS_37] at h | rw [pS_38] at h | rw [pS_39] at h | rw [pS_40] at h | rw [pS_41] at h | rw [pS_42] at h | rw [pS_43] at h | rw [pS_44] at h | rw [pS_45] at h | rw [pS_46] at h | rw [pS_47] at h | rw [pS_48] at h | rw [pS_49] at h | rw [pS_50] at h | rw [pS_51] at h | rw [pS_52] at h | rw [pS_53] at h | rw [pS_54] at h | rw [pS_55] at h | rw [pS_56] at h | rw [pS_57] at h | rw [pS_58] at h | rw [pS_59] at h | rw [pS_60] at h | rw [pS_61] at h | rw [pS_62] at h | rw [pS_63] at h | rw [pS_64] at h | rw [pS_65] at h | rw [pS_66] at h | rw [pS_67] at h)
    (have h0 := kII_i h); clear h; obtain ⟨v, w, r, rfl, h⟩ := h0
    have hr2 := (okL_c.mp (okL_c.mp hst).2).2
    exact lv_imul hx hb hd (go _ _ h (okL_c.mpr ⟨trivial, hr2⟩))
  case ishl =>
    simp only [ilen, Nat.beq_eq] at hlen
    simp only [okI, Bool.and_eq_true, Bool.or_eq_true, Nat.beq_eq, Nat.blt_eq, Nat.ble_eq, decide_eq_true_eq, beq_iff_eq] at hok
    obtain ⟨rfl, rfl⟩ := hok
    subst hlen
    (first | rw [pS_0] at h | rw [pS_1] at h | rw [pS_2] at h | rw [pS_3] at h | rw [pS_4] at h | rw [pS_5] at h | rw [pS_6] at h | rw [pS_7] at h | rw [pS_8] at h | rw [pS_9] at h | rw [pS_10] at h | rw [pS_11] at h | rw [pS_12] at h | rw [pS_13] at h | rw [pS_14] at h | rw [pS_15] at h | rw [pS_16] at h | rw [pS_17] at h | rw [pS_18] at h | rw [pS_19] at h | rw [pS_20] at h | rw [pS_21] at h | rw [pS_22] at h | rw [pS_23] at h | rw [pS_24] at h | rw [pS_25] at h | rw [pS_26] at h | rw [pS_27] at h | rw [pS_28] at h | rw [pS_29] at h | rw [pS_30] at h | rw [pS_31] at h | rw [pS_32] at h | rw [pS_33] at h | rw [pS_34] at h | rw [pS_35] at h | rw [pS_36] at h | rw [pS_37] at h | rw [pS_38] at h | rw [pS_39] at h | rw [pS_40] at h | rw [pS_41] at h | rw [pS_42] at h | rw [pS_43] at h | rw [pS_44] at h | rw [pS_45] at h | rw [pS_46] at h | rw [pS_47] at h | rw [pS_48] at h | rw [pS_49] at h | rw [pS_50] at h | rw [pS_51] at h | rw [pS_52] at h | rw [pS_53] at h | rw [pS_54] at h | rw [pS_55] at h | rw [pS_56] at h | rw [pS_57] at h | rw [pS_58] at h | rw [pS_59] at h | rw [pS_60] at h | rw [pS_61] at h | rw [pS_62] at h | rw [pS_63] at h | rw [pS_64] at h | rw [pS_65] at h | rw [pS_66] at h | rw [pS_67] at h)
    (have h0 := kII_i h); clear h; obtain ⟨v, w, r, rfl, h⟩ := h0
    have hr2 := (okL_c.mp (okL_c.mp hst).2).2
    exact lv_ishl hx hb hd (go _ _ h (okL_c.mpr ⟨trivial, hr2⟩))
  case ishr =>
    simp only [ilen, Nat.beq_eq] at hlen
    simp only [okI, Bool.and_eq_true, Bool.or_eq_true, Nat.beq_eq, Nat.blt_eq, Nat.ble_eq, decide_eq_true_eq, beq_iff_eq] at hok
    obtain ⟨rfl, rfl⟩ := hok
    subst hlen
    (first | rw [pS_0] at h | rw [pS_1] at h | rw [pS_2] at h | rw [pS_3] at h | rw [pS_4] at h | rw [pS_5] at h | rw [pS_6] at h | rw [pS_7] at h | rw [pS_8] at h | rw [pS_9] at h | rw [pS_10] at h | rw [pS_11] at h | rw [pS_12] at h | rw [pS_13] at h | rw [pS_14] at h | rw [pS_15] at h | rw [pS_16] at h | rw [pS_17] at h | rw [pS_18] at h | rw [pS_19] at h | rw [pS_20] at h | rw [pS_21] at h | rw [pS_22] at h | rw [pS_23] at h | rw [pS_24] at h | rw [pS_25] at h | rw [pS_26] at h | rw [pS_27] at h | rw [pS_28] at h | rw [pS_29] at h | rw [pS_30] at h | rw [pS_31] at h | rw [pS_32] at h | rw [pS_33] at h | rw [pS_34] at h | rw [pS_35] at h | rw [pS_36] at h | rw [pS_37] at h | rw [pS_38] at h | rw [pS_39] at h | rw [pS_40] at h | rw [pS_41] at h | rw [pS_42] at h | rw [pS_43] at h | rw [pS_44] at h | rw [pS_45] at h | rw [pS_46] at h | rw [pS_47] at h | rw [pS_48] at h | rw [pS_49] at h | rw [pS_50] at h | rw [pS_51] at h | rw [pS_52] at h | rw [pS_53] at h | rw [pS_54] at h | rw [pS_55] at h | rw [pS_56] at h | rw [pS_57] at h | rw [pS_58] at h | rw [pS_59] at h | rw [pS_60] at h | rw [pS_61] at h | rw [pS_62] at h | rw [pS_63] at h | rw [pS_64] at h | rw [pS_65] at h | rw [pS_66] at h | rw [pS_67] at h)
    (have h0 := kII_i h); clear h; obtain ⟨v, w, r, rfl, h⟩ := h0
    have hr2 := (okL_c.mp (okL_c.mp hst).2).2
    exact lv_ishr hx hb hd (go _ _ h (okL_c.mpr ⟨trivial, hr2⟩))
  case iushr =>
    simp only [ilen, Nat.beq_eq] at hlen
    simp only [okI, Bool.and_eq_true, Bool.or_eq_true, Nat.beq_eq, Nat.blt_eq, Nat.ble_eq, decide_eq_true_eq, beq_iff_eq] at hok
    obtain ⟨rfl, rfl⟩ := hok
    subst hlen
    (first | rw [pS_0] at h | rw [pS_1] at h | rw [pS_2] at h | rw [pS_3] at h | rw [pS_4] at h | rw [pS_5] at h | rw [pS_6] at h | rw [pS_7] at h | rw [pS_8] at h | rw [pS_9] at h | rw [pS_10] at h | rw [pS_11] at h | rw [pS_12] at h | rw [pS_13] at h | rw [pS_14] at h | rw [pS_15] at h | rw [pS_16] at h | rw [pS_17] at h | rw [pS_18] at h | rw [pS_19] at h | rw [pS_20] at h | rw [pS_21] at h | rw [pS_22] at h | rw [pS_23] at h | rw [pS_24] at h | rw [pS_25] at h | rw [pS_26] at h | rw [pS_27] at h | rw [pS_28] at h | rw [pS_29] at h | rw [pS_30] at h | rw [pS_31] at h | rw [pS_32] at h | rw [pS_33] at h | rw [pS_34] at h | rw [pS_35] at h | rw [pS_36] at h | rw [pS_37] at h | rw [pS_38] at h | rw [pS_39] at h | rw [pS_40] at h | rw [pS_41] at h | rw [pS_42] at h | rw [pS_43] at h | rw [pS_44] at h | rw [pS_45] at h | rw [pS_46] at h | rw [pS_47] at h | rw [pS_48] at h | rw [pS_49] at h | rw [pS_50] at h | rw [pS_51] at h | rw [pS_52] at h | rw [pS_53] at h | rw [pS_54] at h | rw [pS_55] at h | rw [pS_56] at h | rw [pS_57] at h | rw [pS_58] at h | rw [pS_59] at h | rw [pS_60] at h | rw [pS_61] at h | rw [pS_62] at h | rw [pS_63] at h | rw [pS_64] at h | rw [pS_65] at h | rw [pS_66] at h | rw [pS_67] at h)
    (have h0 := kII_i h); clear h; obtain ⟨v, w, r, rfl, h⟩ := h0
    have hr2 := (okL_c.mp (okL_c.mp hst).2).2
    exact lv_iushr hx hb hd rfl (go _ _ h (okL_c.mpr ⟨trivial, hr2⟩))
  case iand =>
    simp only [ilen, Nat.beq_eq] at hlen
    simp only [okI, Bool.and_eq_true, Bool.or_eq_true, Nat.beq_eq, Nat.blt_eq, Nat.ble_eq, decide_eq_true_eq, beq_iff_eq] at hok
    obtain ⟨rfl, rfl⟩ := hok
    subst hlen
    (first | rw [pS_0] at h | rw [pS_1] at h | rw [pS_2] at h | rw [pS_3] at h | rw [pS_4] at h | rw [pS_5] at h | rw [pS_6] at h | rw [pS_7] at h | rw [pS_8] at h | rw [pS_9] at h | rw [pS_10] at h | rw [pS_11] at h | rw [pS_12] at h | rw [pS_13] at h | rw [pS_14] at h | rw [pS_15] at h | rw [pS_16] at h | rw [pS_17] at h | rw [pS_18] at h | rw [pS_19] at h | rw [pS_20] at h | rw [pS_21] at h | rw [pS_22] at h | rw [pS_23] at h | rw [pS_24] at h | rw [pS_25] at h | rw [pS_26] at h | rw [pS_27] at h | rw [pS_28] at h | rw [pS_29] at h | rw [pS_30] at h | rw [pS_31] at h | rw [pS_32] at h | rw [pS_33] at h | rw [pS_34] at h | rw [pS_35] at h | rw [pS_36] at h | rw [pS_37] at h | rw [pS_38] at h | rw [pS_39] at h | rw [pS_40] at h | rw [pS_41] at h | rw [pS_42] at h | rw [pS_43] at h | rw [pS_44] at h | rw [pS_45] at h | rw [pS_46] at h | rw [pS_47] at h | rw [pS_48] at h | rw [pS_49] at h | rw [pS_50] at h | rw [pS_51] at h | rw [pS_52] at h | rw [pS_53] at h | rw [pS_54] at h | rw [pS_55] at h | rw [pS_56] at h | rw [pS_57] at h | rw [pS_58] at h | rw [pS_59] at h | rw [pS_60] at h | rw [pS_61] at h | rw [pS_62] at h | rw [pS_63] at h | rw [pS_64] at h | rw [pS_65] at h | rw [pS_66] at h | rw [pS_67] at h)
    (have h0 := kII_i h); clear h; obtain ⟨v, w, r, rfl, h⟩ := h0
    have hr2 := (okL_c.mp (okL_c.mp hst).2).2
    exact lv_iand hx hb hd (go _ _ h (okL_c.mpr ⟨trivial, hr2⟩))
  case ior =>
    simp only [ilen, Nat.beq_eq] at hlen
    simp only [okI, Bool.and_eq_true, Bool.or_eq_true, Nat.beq_eq, Nat.blt_eq, Nat.ble_eq, decide_eq_true_eq, beq_iff_eq] at hok
    obtain ⟨rfl, rfl⟩ := hok
    subst hlen
    (first | rw [pS_0] at h | rw [pS_1] at h | rw [pS_2] at h | rw [pS_3] at h | rw [pS_4] at h | rw [pS_5] at h | rw [pS_6] at h | rw [pS_7] at h | rw [pS_8] at h | rw [pS_9] at h | rw [pS_10] at h | rw [pS_11] at h | rw [pS_12] at h | rw [pS_13] at h | rw [pS_14] at h | rw [pS_15] at h | rw [pS_16] at h | rw [pS_17] at h | rw [pS_18] at h | rw [pS_19] at h | rw [pS_20] at h | rw [pS_21] at h | rw [pS_22] at h | rw [pS_23] at h | rw [pS_24] at h | rw [pS_25] at h | rw [pS_26] at h | rw [pS_27] at h | rw [pS_28] at h | rw [pS_29] at h | rw [pS_30] at h | rw [pS_31] at h | rw [pS_32] at h | rw [pS_33] at h | rw [pS_34] at h | rw [pS_35] at h | rw [pS_36] at h | rw [pS_37] at h | rw [pS_38] at h | rw [pS_39] at h | rw [pS_40] at h | rw [pS_41] at h | rw [pS_42] at h | rw [pS_43] at h | rw [pS_44] at h | rw [pS_45] at h | rw [pS_46] at h | rw [pS_47] at h | rw [pS_48] at h | rw [pS_49] at h | rw [pS_50] at h | rw [pS_51] at h | rw [pS_52] at h | rw [pS_53] at h | rw [pS_54] at h | rw [pS_55] at h | rw [pS_56] at h | rw [pS_57] at h | rw [pS_58] at h | rw [pS_59] at h | rw [pS_60] at h | rw [pS_61] at h | rw [pS_62] at h | rw [pS_63] at h | rw [pS_64] at h | rw [pS_65] at h | rw [pS_66] at h | rw [pS_67] at h)
    (have h0 := kII_i h); clear h; obtain ⟨v, w, r, rfl, h⟩ := h0
    have hr2 := (okL_c.mp (okL_c.mp hst).2).2
    exact lv_ior hx hb hd (go _ _ h (okL_c.mpr ⟨trivial, hr2⟩))
  case ixor =>
    simp only [ilen, Nat.beq_eq] at hlen
    simp only [okI, Bool.and_eq_true, Bool.or_eq_true, Nat.beq_eq, Nat.blt_eq, Nat.ble_eq, decide_eq_true_eq, beq_iff_eq] at hok
    obtain ⟨rfl, rfl⟩ := hok
    subst hlen
    (first | rw [pS_0] at h | rw [pS_1] at h | rw [pS_2] at h | rw [pS_3] at h | rw [pS_4] at h | rw [pS_5] at h | rw [pS_6] at h | rw [pS_7] at h | rw [pS_8] at h | rw [pS_9] at h | rw [pS_10] at h | rw [pS_11] at h | rw [pS_12] at h | rw [pS_13] at h | rw [pS_14] at h | rw [pS_15] at h | rw [pS_16] at h | rw [pS_17] at h | rw [pS_18] at h | rw [pS_19] at h | rw [pS_20] at h | rw [pS_21] at h | rw [pS_22] at h | rw [pS_23] at h | rw [pS_24] at h | rw [pS_25] at h | rw [pS_26] at h | rw [pS_27] at h | rw [pS_28] at h | rw [pS_29] at h | rw [pS_30] at h | rw [pS_31] at h | rw [pS_32] at h | rw [pS_33] at h | rw [pS_34] at h | rw [pS_35] at h | rw [pS_36] at h | rw [pS_37] at h | rw [pS_38] at h | rw [pS_39] at h | rw [pS_40] at h | rw [pS_41] at h | rw [pS_42] at h | rw [pS_43] at h | rw [pS_44] at h | rw [pS_45] at h | rw [pS_46] at h | rw [pS_47] at h | rw [pS_48] at h | rw [pS_49] at h | rw [pS_50] at h | rw [pS_51] at h | rw [pS_52] at h | rw [pS_53] at h | rw [pS_54] at h | rw [pS_55] at h | rw [pS_56] at h | rw [pS_57] at h | rw [pS_58] at h | rw [pS_59] at h | rw [pS_60] at h | rw [pS_61] at h | rw [pS_62] at h | rw [pS_63] at h | rw [pS_64] at h | rw [pS_65] at h | rw [pS_66] at h | rw [pS_67] at h)
    (have h0 := kII_i h); clear h; obtain ⟨v, w, r, rfl, h⟩ := h0
    have hr2 := (okL_c.mp (okL_c.mp hst).2).2
    exact lv_ixor hx hb hd (go _ _ h (okL_c.mpr ⟨trivial, hr2⟩))
  case idiv =>
    simp only [ilen, Nat.beq_eq] at hlen
    simp only [okI, Bool.and_eq_true, Bool.or_eq_true, Nat.beq_eq, Nat.blt_eq, Nat.ble_eq, decide_eq_true_eq, beq_iff_eq] at hok
    subst hok
    subst hlen
    (first | rw [pS_0] at h | rw [pS_1] at h | rw [pS_2] at h | rw [pS_3] at h | rw [pS_4] at h | rw [pS_5] at h | rw [pS_6] at h | rw [pS_7] at h | rw [pS_8] at h | rw [pS_9] at h | rw [pS_10] at h | rw [pS_11] at h | rw [pS_12] at h | rw [pS_13] at h | rw [pS_14] at h | rw [pS_15] at h | rw [pS_16] at h | rw [pS_17] at h | rw [pS_18] at h | rw [pS_19] at h | rw [pS_20] at h | rw [pS_21] at h | rw [pS_22] at h | rw [pS_23] at h | rw [pS_24] at h | rw [pS_25] at h | rw [pS_26] at h | rw [pS_27] at h | rw [pS_28] at h | rw [pS_29] at h | rw [pS_30] at h | rw [pS_31] at h | rw [pS_32] at h | rw [pS_33] at h | rw [pS_34] at h | rw [pS_35] at h | rw [pS_36] at h | rw [pS_37] at h | rw [pS_38] at h | rw [pS_39] at h | rw [pS_40] at h | rw [pS_41] at h | rw [pS_42] at h | rw [pS_43] at h | rw [pS_44] at h | rw [pS_45] at h | rw [pS_46] at h | rw [pS_47] at h | rw [pS_48] at h | rw [pS_49] at h | rw [pS_50] at h | rw [pS_51] at h | rw [pS_52] at h | rw [pS_53] at h | rw [pS_54] at h | rw [pS_55] at h | rw [pS_56] at h | rw [pS_57] at h | rw [pS_58] at h | rw [pS_59] at h | rw [pS_60] at h | rw [pS_61] at h | rw [pS_62] at h | rw [pS_63] at h | rw [pS_64] at h | rw [pS_65] at h | rw [pS_66] at h | rw [pS_67] at h)
    (have h0 := kII_i h); clear h; obtain ⟨v, w, r, rfl, h⟩ := h0
    obtain ⟨hne, h⟩ := if_i h
    have hr2 := (okL_c.mp (okL_c.mp hst).2).2
    exact lv_idiv hx hb hd hne (go _ _ h (okL_c.mpr ⟨trivial, hr2⟩))
  case irem =>
    simp only [ilen, Nat.beq_eq] at hlen
    simp only [okI, Bool.and_eq_true, Bool.or_eq_true, Nat.beq_eq, Nat.blt_eq, Nat.ble_eq, decide_eq_true_eq, beq_iff_eq] at hok
    subst hok
    subst hlen
    (first | rw [pS_0] at h | rw [pS_1] at h | rw [pS_2] at h | rw [pS_3] at h | rw [pS_4] at h | rw [pS_5] at h | rw [pS_6] at h | rw [pS_7] at h | rw [pS_8] at h | rw [pS_9] at h | rw [pS_10] at h | rw [pS_11] at h | rw [pS_12] at h | rw [pS_13] at h | rw [pS_14] at h | rw [pS_15] at h | rw [pS_16] at h | rw [pS_17] at h | rw [pS_18] at h | rw [pS_19] at h | rw [pS_20] at h | rw [pS_21] at h | rw [pS_22] at h | rw [pS_23] at h | rw [pS_24] at h | rw [pS_25] at h | rw [pS_26] at h | rw [pS_27] at h | rw [pS_28] at h | rw [pS_29] at h | rw [pS_30] at h | rw [pS_31] at h | rw [pS_32] at h | rw [pS_33] at h | rw [pS_34] at h | rw [pS_35] at h | rw [pS_36] at h | rw [pS_37] at h | rw [pS_38] at h | rw [pS_39] at h | rw [pS_40] at h | rw [pS_41] at h | rw [pS_42] at h | rw [pS_43] at h | rw [pS_44] at h | rw [pS_45] at h | rw [pS_46] at h | rw [pS_47] at h | rw [pS_48] at h | rw [pS_49] at h | rw [pS_50] at h | rw [pS_51] at h | rw [pS_52] at h | rw [pS_53] at h | rw [pS_54] at h | rw [pS_55] at h | rw [pS_56] at h | rw [pS_57] at h | rw [pS_58] at h | rw [pS_59] at h | rw [pS_60] at h | rw [pS_61] at h | rw [pS_62] at h | rw [pS_63] at h | rw [pS_64] at h | rw [pS_65] at h | rw [pS_66] at h | rw [pS_67] at h)
    (have h0 := kII_i h); clear h; obtain ⟨v, w, r, rfl, h⟩ := h0
    obtain ⟨hne, h⟩ := if_i h
    have hr2 := (okL_c.mp (okL_c.mp hst).2).2
    exact lv_irem hx hb hd hne (go _ _ h (okL_c.mpr ⟨trivial, hr2⟩))
  case ldiv =>
    simp only [ilen, Nat.beq_eq] at hlen
    simp only [okI, Bool.and_eq_true, Bool.or_eq_true, Nat.beq_eq, Nat.blt_eq, Nat.ble_eq, decide_eq_true_eq, beq_iff_eq] at hok
    subst hok
    subst hlen
    (first | rw [pS_0] at h | rw [pS_1] at h | rw [pS_2] at h | rw [pS_3] at h | rw [pS_4] at h | rw [pS_5] at h | rw [pS_6] at h | rw [pS_7] at h | rw [pS_8] at h | rw [pS_9] at h | rw [pS_10] at h | rw [pS_11] at h | rw [pS_12] at h | rw [pS_13] at h | rw [pS_14] at h | rw [pS_15] at h | rw [pS_16] at h | rw [pS_17] at h | rw [pS_18] at h | rw [pS_19] at h | rw [pS_20] at h | rw [pS_21] at h | rw [pS_22] at h | rw [pS_23] at h | rw [pS_24] at h | rw [pS_25] at h | rw [pS_26] at h | rw [pS_27] at h | rw [pS_28] at h | rw [pS_29] at h | rw [pS_30] at h | rw [pS_31] at h | rw [pS_32] at h | rw [pS_33] at h | rw [pS_34] at h | rw [pS_35] at h | rw [pS_36] at h | rw [pS_37] at h | rw [pS_38] at h | rw [pS_39] at h | rw [pS_40] at h | rw [pS_41] at h | rw [pS_42] at h | rw [pS_43] at h | rw [pS_44] at h | rw [pS_45] at h | rw [pS_46] at h | rw [pS_47] at h | rw [pS_48] at h | rw [pS_49] at h | rw [pS_50] at h | rw [pS_51] at h | rw [pS_52] at h | rw [pS_53] at h | rw [pS_54] at h | rw [pS_55] at h | rw [pS_56] at h | rw [pS_57] at h | rw [pS_58] at h | rw [pS_59] at h | rw [pS_60] at h | rw [pS_61] at h | rw [pS_62] at h | rw [pS_63] at h | rw [pS_64] at h | rw [pS_65] at h | rw [pS_66] at h | rw [pS_67] at h)
    (have h0 := kJJ_i h); clear h; obtain ⟨v, w, r, rfl, h⟩ := h0
    obtain ⟨hne, h⟩ := if_i h
    have hr2 := (okL_c.mp (okL_c.mp hst).2).2
    exact lv_ldiv hx hb hd hne (go _ _ h (okL_c.mpr ⟨trivial, hr2⟩))
  case lrem =>
    simp only [ilen, Nat.beq_eq] at hlen
    simp only [okI, Bool.and_eq_true, Bool.or_eq_true, Nat.beq_eq, Nat.blt_eq, Nat.ble_eq, decide_eq_true_eq, beq_iff_eq] at hok
    subst hok
    subst hlen
    (first | rw [pS_0] at h | rw [pS_1] at h | rw [pS_2] at h | rw [pS_3] at h | rw [pS_4] at h | rw [pS_5] at h | rw [pS_6] at h | rw [pS_7] at h | rw [pS_8] at h | rw [pS_9] at h | rw [pS_10] at h | rw [pS_11] at h | rw [pS_12] at h | rw [pS_13] at h | rw [pS_14] at h | rw [pS_15] at h | rw [pS_16] at h | rw [pS_17] at h | rw [pS_18] at h | rw [pS_19] at h | rw [pS_20] at h | rw [pS_21] at h | rw [pS_22] at h | rw [pS_23] at h | rw [pS_24] at h | rw [pS_25] at h | rw [pS_26] at h | rw [pS_27] at h | rw [pS_28] at h | rw [pS_29] at h | rw [pS_30] at h | rw [pS_31] at h | rw [pS_32] at h | rw [pS_33] at h | rw [pS_34] at h | rw [pS_35] at h | rw [pS_36] at h | rw [pS_37] at h | rw [pS_38] at h | rw [pS_39] at h | rw [pS_40] at h | rw [pS_41] at h | rw [pS_42] at h | rw [pS_43] at h | rw [pS_44] at h | rw [pS_45] at h | rw [pS_46] at h | rw [pS_47] at h | rw [pS_48] at h | rw [pS_49] at h | rw [pS_50] at h | rw [pS_51] at h | rw [pS_52] at h | rw [pS_53] at h | rw [pS_54] at h | rw [pS_55] at h | rw [pS_56] at h | rw [pS_57] at h | rw [pS_58] at h | rw [pS_59] at h | rw [pS_60] at h | rw [pS_61] at h | rw [pS_62] at h | rw [pS_63] at h | rw [pS_64] at h | rw [pS_65] at h | rw [pS_66] at h | rw [pS_67] at h)
    (have h0 := kJJ_i h); clear h; obtain ⟨v, w, r, rfl, h⟩ := h0
    obtain ⟨hne, h⟩ := if_i h
    have hr2 := (okL_c.mp (okL_c.mp hst).2).2
    exact lv_lrem hx hb hd hne (go _ _ h (okL_c.mpr ⟨trivial, hr2⟩))
  case lmul =>
    simp only [ilen, Nat.beq_eq] at hlen
    simp only [okI, Bool.and_eq_true, Bool.or_eq_true, Nat.beq_eq, Nat.blt_eq, Nat.ble_eq, decide_eq_true_eq, beq_iff_eq] at hok
    subst hok
    subst hlen
    (first | rw [pS_0] at h | rw [pS_1] at h | rw [pS_2] at h | rw [pS_3] at h | rw [pS_4] at h | rw [pS_5] at h | rw [pS_6] at h | rw [pS_7] at h | rw [pS_8] at h | rw [pS_9] at h | rw [pS_10] at h | rw [pS_11] at h | rw [pS_12] at h | rw [pS_13] at h | rw [pS_14] at h | rw [pS_15] at h | rw [pS_16] at h | rw [pS_17] at h | rw [pS_18] at h | rw [pS_19] at h | rw [pS_20] at h | rw [pS_21] at h | rw [pS_22] at h | rw [pS_23] at h | rw [pS_24] at h | rw [pS_25] at h | rw [pS_26] at h | rw [pS_27] at h | rw [pS_28] at h | rw [pS_29] at h | rw [pS_30] at h | rw [pS_31] at h | rw [pS_32] at h | rw [pS_33] at h | rw [pS_34] at h | rw [pS_35] at h | rw [pS_36] at h | rw [pS_37] at h | rw [pS_38] at h | rw [pS_39] at h | rw [pS_40] at h | rw [pS_41] at h | rw [pS_42] at h | rw [pS_43] at h | rw [pS_44] at h | rw [pS_45] at h | rw [pS_46] at h | rw [pS_47] at h | rw [pS_48] at h | rw [pS_49] at h | rw [pS_50] at h | rw [pS_51] at h | rw [pS_52] at h | rw [pS_53] at h | rw [pS_54] at h | rw [pS_55] at h | rw [pS_56] at h | rw [pS_57] at h | rw [pS_58] at h | rw [pS_59] at h | rw [pS_60] at h | rw [pS_61] at h | rw [pS_62] at h | rw [pS_63] at h | rw [pS_64] at h | rw [pS_65] at h | rw [pS_66] at h | rw [pS_67] at h)
    (have h0 := kJJ_i h); clear h; obtain ⟨v, w, r, rfl, h⟩ := h0
    have hr2 := (okL_c.mp (okL_c.mp hst).2).2
    exact lv_lmul hx hb hd (go _ _ h (okL_c.mpr ⟨trivial, hr2⟩))
  case i2l =>
    simp only [ilen, Nat.beq_eq] at hlen
    simp only [okI, Bool.and_eq_true, Bool.or_eq_true, Nat.beq_eq, Nat.blt_eq, Nat.ble_eq, decide_eq_true_eq, beq_iff_eq] at hok
    subst hok
    subst hlen
    (first | rw [pS_0] at h | rw [pS_1] at h | rw [pS_2] at h | rw [pS_3] at h | rw [pS_4] at h | rw [pS_5] at h | rw [pS_6] at h | rw [pS_7] at h | rw [pS_8] at h | rw [pS_9] at h | rw [pS_10] at h | rw [pS_11] at h | rw [pS_12] at h | rw [pS_13] at h | rw [pS_14] at h | rw [pS_15] at h | rw [pS_16] at h | rw [pS_17] at h | rw [pS_18] at h | rw [pS_19] at h | rw [pS_20] at h | rw [pS_21] at h | rw [pS_22] at h | rw [pS_23] at h | rw [pS_24] at h | rw [pS_25] at h | rw [pS_26] at h | rw [pS_27] at h | rw [pS_28] at h | rw [pS_29] at h | rw [pS_30] at h | rw [pS_31] at h | rw [pS_32] at h | rw [pS_33] at h | rw [pS_34] at h | rw [pS_35] at h | rw [pS_36] at h | rw [pS_37] at h | rw [pS_38] at h | rw [pS_39] at h | rw [pS_40] at h | rw [pS_41] at h | rw [pS_42] at h | rw [pS_43] at h | rw [pS_44] at h | rw [pS_45] at h | rw [pS_46] at h | rw [pS_47] at h | rw [pS_48] at h | rw [pS_49] at h | rw [pS_50] at h | rw [pS_51] at h | rw [pS_52] at h | rw [pS_53] at h | rw [pS_54] at h | rw [pS_55] at h | rw [pS_56] at h | rw [pS_57] at h | rw [pS_58] at h | rw [pS_59] at h | rw [pS_60] at h | rw [pS_61] at h | rw [pS_62] at h | rw [pS_63] at h | rw [pS_64] at h | rw [pS_65] at h | rw [pS_66] at h | rw [pS_67] at h)
    (have h0 := kI_i h); clear h; obtain ⟨v, r, rfl, h⟩ := h0
    exact lv_i2l hx hb hd rfl (go _ _ h (okL_c.mpr ⟨trivial, (okL_c.mp hst).2⟩))
  case l2i =>
    simp only [ilen, Nat.beq_eq] at hlen
    simp only [okI, Bool.and_eq_true, Bool.or_eq_true, Nat.beq_eq, Nat.blt_eq, Nat.ble_eq, decide_eq_true_eq, beq_iff_eq] at hok
    subst hok
    subst hlen
    (first | rw [pS_0] at h | rw [pS_1] at h | rw [pS_2] at h | rw [pS_3] at h | rw [pS_4] at h | rw [pS_5] at h | rw [pS_6] at h | rw [pS_7] at h | rw [pS_8] at h | rw [pS_9] at h | rw [pS_10] at h | rw [pS_11] at h | rw [pS_12] at h | rw [pS_13] at h | rw [pS_14] at h | rw [pS_15] at h | rw [pS_16] at h | rw [pS_17] at h | rw [pS_18] at h | rw [pS_19] at h | rw [pS_20] at h | rw [pS_21] at h | rw [pS_22] at h | rw [pS_23] at h | rw [pS_24] at h | rw [pS_25] at h | rw [pS_26] at h | rw [pS_27] at h | rw [pS_28] at h | rw [pS_29] at h | rw [pS_30] at h | rw [pS_31] at h | rw [pS_32] at h | rw [pS_33] at h | rw [pS_34] at h | rw [pS_35] at h | rw [pS_36] at h | rw [pS_37] at h | rw [pS_38] at h | rw [pS_39] at h | rw [pS_40] at h | rw [pS_41] at h | rw [pS_42] at h | rw [pS_43] at h | rw [pS_44] at h | rw [pS_45] at h | rw [pS_46] at h | rw [pS_47] at h | rw [pS_48] at h | rw [pS_49] at h | rw [pS_50] at h | rw [pS_51] at h | rw [pS_52] at h | rw [pS_53] at h | rw [pS_54] at h | rw [pS_55] at h | rw [pS_56] at h | rw [pS_57] at h | rw [pS_58] at h | rw [pS_59] at h | rw [pS_60] at h | rw [pS_61] at h | rw [pS_62] at h | rw [pS_63] at h | rw [pS_64] at h | rw [pS_65] at h | rw [pS_66] at h | rw [pS_67] at h)
    (have h0 := kJ_i h); clear h; obtain ⟨v, r, rfl, h⟩ := h0
    exact lv_l2i hx hb hd rfl (go _ _ h (okL_c.mpr ⟨trivial, (okL_c.mp hst).2⟩))
  case lcmp =>
    simp only [ilen, Nat.beq_eq] at hlen
    simp only [okI, Bool.and_eq_true, Bool.or_eq_true, Nat.beq_eq, Nat.blt_eq, Nat.ble_eq, decide_eq_true_eq, beq_iff_eq] at hok
    subst hok
    subst hlen
    (first | rw [pS_0] at h | rw [pS_1] at h | rw [pS_2] at h | rw [pS_3] at h | rw [pS_4] at h | rw [pS_5] at h | rw [pS_6] at h | rw [pS_7] at h | rw [pS_8] at h | rw [pS_9] at h | rw [pS_10] at h | rw [pS_11] at h | rw [pS_12] at h | rw [pS_13] at h | rw [pS_14] at h | rw [pS_15] at h | rw [pS_16] at h | rw [pS_17] at h | rw [pS_18] at h | rw [pS_19] at h | rw [pS_20] at h | rw [pS_21] at h | rw [pS_22] at h | rw [pS_23] at h | rw [pS_24] at h | rw [pS_25] at h | rw [pS_26] at h | rw [pS_27] at h | rw [pS_28] at h | rw [pS_29] at h | rw [pS_30] at h | rw [pS_31] at h | rw [pS_32] at h | rw [pS_33] at h | rw [pS_34] at h | rw [pS_35] at h | rw [pS_36] at h | rw [pS_37] at h | rw [pS_38] at h | rw [pS_39] at h | rw [pS_40] at h | rw [pS_41] at h | rw [pS_42] at h | rw [pS_43] at h | rw [pS_44] at h | rw [pS_45] at h | rw [pS_46] at h | rw [pS_47] at h | rw [pS_48] at h | rw [pS_49] at h | rw [pS_50] at h | rw [pS_51] at h | rw [pS_52] at h | rw [pS_53] at h | rw [pS_54] at h | rw [pS_55] at h | rw [pS_56] at h | rw [pS_57] at h | rw [pS_58] at h | rw [pS_59] at h | rw [pS_60] at h | rw [pS_61] at h | rw [pS_62] at h | rw [pS_63] at h | rw [pS_64] at h | rw [pS_65] at h | rw [pS_66] at h | rw [pS_67] at h)
    (have h0 := kJJ_i h); clear h; obtain ⟨v, w, r, rfl, h⟩ := h0
    have hr2 := (okL_c.mp (okL_c.mp hst).2).2
    exact W.lcmp hx hb hd (go _ _ h (okL_c.mpr ⟨trivial, hr2⟩))
  case dup =>
    simp only [ilen, Nat.beq_eq] at hlen
    simp only [okI, Bool.and_eq_true, Bool.or_eq_true, Nat.beq_eq, Nat.blt_eq, Nat.ble_eq, decide_eq_true_eq, beq_iff_eq] at hok
    subst hok
    subst hlen
    (first | rw [pS_0] at h | rw [pS_1] at h | rw [pS_2] at h | rw [pS_3] at h | rw [pS_4] at h | rw [pS_5] at h | rw [pS_6] at h | rw [pS_7] at h | rw [pS_8] at h | rw [pS_9] at h | rw [pS_10] at h | rw [pS_11] at h | rw [pS_12] at h | rw [pS_13] at h | rw [pS_14] at h | rw [pS_15] at h | rw [pS_16] at h | rw [pS_17] at h | rw [pS_18] at h | rw [pS_19] at h | rw [pS_20] at h | rw [pS_21] at h | rw [pS_22] at h | rw [pS_23] at h | rw [pS_24] at h | rw [pS_25] at h | rw [pS_26] at h | rw [pS_27] at h | rw [pS_28] at h | rw [pS_29] at h | rw [pS_30] at h | rw [pS_31] at h | rw [pS_32] at h | rw [pS_33] at h | rw [pS_34] at h | rw [pS_35] at h | rw [pS_36] at h | rw [pS_37] at h | rw [pS_38] at h | rw [pS_39] at h | rw [pS_40] at h | rw [pS_41] at h | rw [pS_42] at h | rw [pS_43] at h | rw [pS_44] at h | rw [pS_45] at h | rw [pS_46] at h | rw [pS_47] at h | rw [pS_48] at h | rw [pS_49] at h | rw [pS_50] at h | rw [pS_51] at h | rw [pS_52] at h | rw [pS_53] at h | rw [pS_54] at h | rw [pS_55] at h | rw [pS_56] at h | rw [pS_57] at h | rw [pS_58] at h | rw [pS_59] at h | rw [pS_60] at h | rw [pS_61] at h | rw [pS_62] at h | rw [pS_63] at h | rw [pS_64] at h | rw [pS_65] at h | rw [pS_66] at h | rw [pS_67] at h)
    (have h0 := kV1_i h); clear h; obtain ⟨v, r, rfl, hv, h⟩ := h0
    have h2 := go _ _ h (okL_c.mpr ⟨(okL_c.mp hst).1, hst⟩)
    exact lv_dup hx hb hd (by rcases hv with ⟨y, rfl⟩ | ⟨y, rfl⟩ <;> rfl) h2
  case dup2 =>
    simp only [ilen, Nat.beq_eq] at hlen
    simp only [okI, Bool.and_eq_true, Bool.or_eq_true, Nat.beq_eq, Nat.blt_eq, Nat.ble_eq, decide_eq_true_eq, beq_iff_eq] at hok
    subst hok
    subst hlen
    (first | rw [pS_0] at h | rw [pS_1] at h | rw [pS_2] at h | rw [pS_3] at h | rw [pS_4] at h | rw [pS_5] at h | rw [pS_6] at h | rw [pS_7] at h | rw [pS_8] at h | rw [pS_9] at h | rw [pS_10] at h | rw [pS_11] at h | rw [pS_12] at h | rw [pS_13] at h | rw [pS_14] at h | rw [pS_15] at h | rw [pS_16] at h | rw [pS_17] at h | rw [pS_18] at h | rw [pS_19] at h | rw [pS_20] at h | rw [pS_21] at h | rw [pS_22] at h | rw [pS_23] at h | rw [pS_24] at h | rw [pS_25] at h | rw [pS_26] at h | rw [pS_27] at h | rw [pS_28] at h | rw [pS_29] at h | rw [pS_30] at h | rw [pS_31] at h | rw [pS_32] at h | rw [pS_33] at h | rw [pS_34] at h | rw [pS_35] at h | rw [pS_36] at h | rw [pS_37] at h | rw [pS_38] at h | rw [pS_39] at h | rw [pS_40] at h | rw [pS_41] at h | rw [pS_42] at h | rw [pS_43] at h | rw [pS_44] at h | rw [pS_45] at h | rw [pS_46] at h | rw [pS_47] at h | rw [pS_48] at h | rw [pS_49] at h | rw [pS_50] at h | rw [pS_51] at h | rw [pS_52] at h | rw [pS_53] at h | rw [pS_54] at h | rw [pS_55] at h | rw [pS_56] at h | rw [pS_57] at h | rw [pS_58] at h | rw [pS_59] at h | rw [pS_60] at h | rw [pS_61] at h | rw [pS_62] at h | rw [pS_63] at h | rw [pS_64] at h | rw [pS_65] at h | rw [pS_66] at h | rw [pS_67] at h)
    (have h0 := kIA_i h); clear h; obtain ⟨q, j, r, rfl, h⟩ := h0
    have h2 := go _ _ h (okL_c.mpr ⟨trivial, okL_c.mpr ⟨(okL_c.mp (okL_c.mp hst).2).1, hst⟩⟩)
    exact lv_dup2_11 hx hb hd rfl rfl h2
  case pop =>
    simp only [ilen, Nat.beq_eq] at hlen
    simp only [okI, Bool.and_eq_true, Bool.or_eq_true, Nat.beq_eq, Nat.blt_eq, Nat.ble_eq, decide_eq_true_eq, beq_iff_eq] at hok
    subst hok
    subst hlen
    (first | rw [pS_0] at h | rw [pS_1] at h | rw [pS_2] at h | rw [pS_3] at h | rw [pS_4] at h | rw [pS_5] at h | rw [pS_6] at h | rw [pS_7] at h | rw [pS_8] at h | rw [pS_9] at h | rw [pS_10] at h | rw [pS_11] at h | rw [pS_12] at h | rw [pS_13] at h | rw [pS_14] at h | rw [pS_15] at h | rw [pS_16] at h | rw [pS_17] at h | rw [pS_18] at h | rw [pS_19] at h | rw [pS_20] at h | rw [pS_21] at h | rw [pS_22] at h | rw [pS_23] at h | rw [pS_24] at h | rw [pS_25] at h | rw [pS_26] at h | rw [pS_27] at h | rw [pS_28] at h | rw [pS_29] at h | rw [pS_30] at h | rw [pS_31] at h | rw [pS_32] at h | rw [pS_33] at h | rw [pS_34] at h | rw [pS_35] at h | rw [pS_36] at h | rw [pS_37] at h | rw [pS_38] at h | rw [pS_39] at h | rw [pS_40] at h | rw [pS_41] at h | rw [pS_42] at h | rw [pS_43] at h | rw [pS_44] at h | rw [pS_45] at h | rw [pS_46] at h | rw [pS_47] at h | rw [pS_48] at h | rw [pS_49] at h | rw [pS_50] at h | rw [pS_51] at h | rw [pS_52] at h | rw [pS_53] at h | rw [pS_54] at h | rw [pS_55] at h | rw [pS_56] at h | rw [pS_57] at h | rw [pS_58] at h | rw [pS_59] at h | rw [pS_60] at h | rw [pS_61] at h | rw [pS_62] at h | rw [pS_63] at h | rw [pS_64] at h | rw [pS_65] at h | rw [pS_66] at h | rw [pS_67] at h)
    (have h0 := kV1_i h); clear h; obtain ⟨v, r, rfl, hv, h⟩ := h0
    exact lv_pop hx hb hd (by rcases hv with ⟨y, rfl⟩ | ⟨y, rfl⟩ <;> rfl) (go _ _ h (okL_c.mp hst).2)
  case aconst_null =>
    simp only [ilen, Nat.beq_eq] at hlen
    simp only [okI, Bool.and_eq_true, Bool.or_eq_true, Nat.beq_eq, Nat.blt_eq, Nat.ble_eq, decide_eq_true_eq, beq_iff_eq] at hok
    subst hok
    subst hlen
    (first | rw [pS_0] at h | rw [pS_1] at h | rw [pS_2] at h | rw [pS_3] at h | rw [pS_4] at h | rw [pS_5] at h | rw [pS_6] at h | rw [pS_7] at h | rw [pS_8] at h | rw [pS_9] at h | rw [pS_10] at h | rw [pS_11] at h | rw [pS_12] at h | rw [pS_13] at h | rw [pS_14] at h | rw [pS_15] at h | rw [pS_16] at h | rw [pS_17] at h | rw [pS_18] at h | rw [pS_19] at h | rw [pS_20] at h | rw [pS_21] at h | rw [pS_22] at h | rw [pS_23] at h | rw [pS_24] at h | rw [pS_25] at h | rw [pS_26] at h | rw [pS_27] at h | rw [pS_28] at h | rw [pS_29] at h | rw [pS_30] at h | rw [pS_31] at h | rw [pS_32] at h | rw [pS_33] at h | rw [pS_34] at h | rw [pS_35] at h | rw [pS_36] at h | rw [pS_37] at h | rw [pS_38] at h | rw [pS_39] at h | rw [pS_40] at h | rw [pS_41] at h | rw [pS_42] at h | rw [pS_43] at h | rw [pS_44] at h | rw [pS_45] at h | rw [pS_46] at h | rw [pS_47] at h | rw [pS_48] at h | rw [pS_49] at h | rw [pS_50] at h | rw [pS_51] at h | rw [pS_52] at h | rw [pS_53] at h | rw [pS_54] at h | rw [pS_55] at h | rw [pS_56] at h | rw [pS_57] at h | rw [pS_58] at h | rw [pS_59] at h | rw [pS_60] at h | rw [pS_61] at h | rw [pS_62] at h | rw [pS_63] at h | rw [pS_64] at h | rw [pS_65] at h | rw [pS_66] at h | rw [pS_67] at h)
    exact lv_null hx hb hd (go _ _ h (okL_c.mpr ⟨trivial, hst⟩))
  case goto zz =>
    simp only [ilen, Nat.beq_eq] at hlen
    simp only [okI, Bool.and_eq_true, Bool.or_eq_true, Nat.beq_eq, Nat.blt_eq, Nat.ble_eq, decide_eq_true_eq, beq_iff_eq] at hok
    obtain ⟨rfl, ht⟩ := hok
    subst hlen
    (first | rw [pS_0] at h | rw [pS_1] at h | rw [pS_2] at h | rw [pS_3] at h | rw [pS_4] at h | rw [pS_5] at h | rw [pS_6] at h | rw [pS_7] at h | rw [pS_8] at h | rw [pS_9] at h | rw [pS_10] at h | rw [pS_11] at h | rw [pS_12] at h | rw [pS_13] at h | rw [pS_14] at h | rw [pS_15] at h | rw [pS_16] at h | rw [pS_17] at h | rw [pS_18] at h | rw [pS_19] at h | rw [pS_20] at h | rw [pS_21] at h | rw [pS_22] at h | rw [pS_23] at h | rw [pS_24] at h | rw [pS_25] at h | rw [pS_26] at h | rw [pS_27] at h | rw [pS_28] at h | rw [pS_29] at h | rw [pS_30] at h | rw [pS_31] at h | rw [pS_32] at h | rw [pS_33] at h | rw [pS_34] at h | rw [pS_35] at h | rw [pS_36] at h | rw [pS_37] at h | rw [pS_38] at h | rw [pS_39] at h | rw [pS_40] at h | rw [pS_41] at h | rw [pS_42] at h | rw [pS_43] at h | rw [pS_44] at h | rw [pS_45] at h | rw [pS_46] at h | rw [pS_47] at h | rw [pS_48] at h | rw [pS_49] at h | rw [pS_50] at h | rw [pS_51] at h | rw [pS_52] at h | rw [pS_53] at h | rw [pS_54] at h | rw [pS_55] at h | rw [pS_56] at h | rw [pS_57] at h | rw [pS_58] at h | rw [pS_59] at h | rw [pS_60] at h | rw [pS_61] at h | rw [pS_62] at h | rw [pS_63] at h | rw [pS_64] at h | rw [pS_65] at h | rw [pS_66] at h | rw [pS_67] at h)
    exact lv_goto hx hb hd (of_decide_eq_true ht) (go _ _ h hst)
  case if_icmp cd zz =>
    simp only [ilen, Nat.beq_eq] at hlen
    cases cd
    · simp only [okI, Bool.and_eq_true, Bool.or_eq_true, Nat.beq_eq, Nat.blt_eq, Nat.ble_eq, decide_eq_true_eq, beq_iff_eq] at hok
      simp only [cdN, Nat.reduceAdd] at hok
      obtain ⟨rfl, ht⟩ := hok
      subst hlen
      (first | rw [pS_0] at h | rw [pS_1] at h | rw [pS_2] at h | rw [pS_3] at h | rw [pS_4] at h | rw [pS_5] at h | rw [pS_6] at h | rw [pS_7] at h | rw [pS_8] at h | rw [pS_9] at h | rw [pS_10] at h | rw [pS_11] at h | rw [pS_12] at h | rw [pS_13] at h | rw [pS_14] at h | rw [pS_15] at h | rw [pS_16] at h | rw [pS_17] at h | rw [pS_18] at h | rw [pS_19] at h | rw [pS_20] at h | rw [pS_21] at h | rw [pS_22] at h | rw [pS_23] at h | rw [pS_24] at h | rw [pS_25] at h | rw [pS_26] at h | rw [pS_27] at h | rw [pS_28] at h | rw [pS_29] at h | rw [pS_30] at h | rw [pS_31] at h | rw [pS_32] at h | rw [pS_33] at h | rw [pS_34] at h | rw [pS_35] at h | rw [pS_36] at h | rw [pS_37] at h | rw [pS_38] at h | rw [pS_39] at h | rw [pS_40] at h | rw [pS_41] at h | rw [pS_42] at h | rw [pS_43] at h | rw [pS_44] at h | rw [pS_45] at h | rw [pS_46] at h | rw [pS_47] at h | rw [pS_48] at h | rw [pS_49] at h | rw [pS_50] at h | rw [pS_51] at h | rw [pS_52] at h | rw [pS_53] at h | rw [pS_54] at h | rw [pS_55] at h | rw [pS_56] at h | rw [pS_57] at h | rw [pS_58] at h | rw [pS_59] at h | rw [pS_60] at h | rw [pS_61] at h | rw [pS_62] at h | rw [pS_63] at h | rw [pS_64] at h | rw [pS_65] at h | rw [pS_66] at h | rw [pS_67] at h)
      (have h0 := kII_i h); clear h; obtain ⟨v, w, r, rfl, h⟩ := h0
      have hr2 := (okL_c.mp (okL_c.mp hst).2).2
      refine lv_icmp_eq hx hb hd (of_decide_eq_true ht) (fun hc => go _ _ ?_ hr2) (fun hc => go _ _ ?_ hr2)
      · rw [if_pos hc] at h; exact h
      · rw [if_neg (hc)] at h; exact h
    · simp only [okI, Bool.and_eq_true, Bool.or_eq_true, Nat.beq_eq, Nat.blt_eq, Nat.ble_eq, decide_eq_true_eq, beq_iff_eq] at hok
      simp only [cdN, Nat.reduceAdd] at hok
      obtain ⟨rfl, ht⟩ := hok
      subst hlen
      (first | rw [pS_0] at h | rw [pS_1] at h | rw [pS_2] at h | rw [pS_3] at h | rw [pS_4] at h | rw [pS_5] at h | rw [pS_6] at h | rw [pS_7] at h | rw [pS_8] at h | rw [pS_9] at h | rw [pS_10] at h | rw [pS_11] at h | rw [pS_12] at h | rw [pS_13] at h | rw [pS_14] at h | rw [pS_15] at h | rw [pS_16] at h | rw [pS_17] at h | rw [pS_18] at h | rw [pS_19] at h | rw [pS_20] at h | rw [pS_21] at h | rw [pS_22] at h | rw [pS_23] at h | rw [pS_24] at h | rw [pS_25] at h | rw [pS_26] at h | rw [pS_27] at h | rw [pS_28] at h | rw [pS_29] at h | rw [pS_30] at h | rw [pS_31] at h | rw [pS_32] at h | rw [pS_33] at h | rw [pS_34] at h | rw [pS_35] at h | rw [pS_36] at h | rw [pS_37] at h | rw [pS_38] at h | rw [pS_39] at h | rw [pS_40] at h | rw [pS_41] at h | rw [pS_42] at h | rw [pS_43] at h | rw [pS_44] at h | rw [pS_45] at h | rw [pS_46] at h | rw [pS_47] at h | rw [pS_48] at h | rw [pS_49] at h | rw [pS_50] at h | rw [pS_51] at h | rw [pS_52] at h | rw [pS_53] at h | rw [pS_54] at h | rw [pS_55] at h | rw [pS_56] at h | rw [pS_57] at h | rw [pS_58] at h | rw [pS_59] at h | rw [pS_60] at h | rw [pS_61] at h | rw [pS_62] at h | rw [pS_63] at h | rw [pS_64] at h | rw [pS_65] at h | rw [pS_66] at h | rw [pS_67] at h)
      (have h0 := kII_i h); clear h; obtain ⟨v, w, r, rfl, h⟩ := h0
      have hr2 := (okL_c.mp (okL_c.mp hst).2).2
      refine lv_icmp_ne hx hb hd (of_decide_eq_true ht) (fun hc => go _ _ ?_ hr2) (fun hc => go _ _ ?_ hr2)
      · rw [if_pos hc] at h; exact h
      · rw [if_neg (fun hn => hn hc)] at h; exact h
    · simp only [okI, Bool.and_eq_true, Bool.or_eq_true, Nat.beq_eq, Nat.blt_eq, Nat.ble_eq, decide_eq_true_eq, beq_iff_eq] at hok
      simp only [cdN, Nat.reduceAdd] at hok
      obtain ⟨rfl, ht⟩ := hok
      subst hlen
      (first | rw [pS_0] at h | rw [pS_1] at h | rw [pS_2] at h | rw [pS_3] at h | rw [pS_4] at h | rw [pS_5] at h | rw [pS_6] at h | rw [pS_7] at h | rw [pS_8] at h | rw [pS_9] at h | rw [pS_10] at h | rw [pS_11] at h | rw [pS_12] at h | rw [pS_13] at h | rw [pS_14] at h | rw [pS_15] at h | rw [pS_16] at h | rw [pS_17] at h | rw [pS_18] at h | rw [pS_19] at h | rw [pS_20] at h | rw [pS_21] at h | rw [pS_22] at h | rw [pS_23] at h | rw [pS_24] at h | rw [pS_25] at h | rw [pS_26] at h | rw [pS_27] at h | rw [pS_28] at h | rw [pS_29] at h | rw [pS_30] at h | rw [pS_31] at h | rw [pS_32] at h | rw [pS_33] at h | rw [pS_34] at h | rw [pS_35] at h | rw [pS_36] at h | rw [pS_37] at h | rw [pS_38] at h | rw [pS_39] at h | rw [pS_40] at h | rw [pS_41] at h | rw [pS_42] at h | rw [pS_43] at h | rw [pS_44] at h | rw [pS_45] at h | rw [pS_46] at h | rw [pS_47] at h | rw [pS_48] at h | rw [pS_49] at h | rw [pS_50] at h | rw [pS_51] at h | rw [pS_52] at h | rw [pS_53] at h | rw [pS_54] at h | rw [pS_55] at h | rw [pS_56] at h | rw [pS_57] at h | rw [pS_58] at h | rw [pS_59] at h | rw [pS_60] at h | rw [pS_61] at h | rw [pS_62] at h | rw [pS_63] at h | rw [pS_64] at h | rw [pS_65] at h | rw [pS_66] at h | rw [pS_67] at h)
      (have h0 := kII_i h); clear h; obtain ⟨v, w, r, rfl, h⟩ := h0
      have hr2 := (okL_c.mp (okL_c.mp hst).2).2
      refine lv_icmp_lt hx hb hd (of_decide_eq_true ht) (fun hc => go _ _ ?_ hr2) (fun hc => go _ _ ?_ hr2)
      · rw [if_pos hc] at h; exact h
      · rw [if_neg (hc)] at h; exact h
    · simp only [okI, Bool.and_eq_true, Bool.or_eq_true, Nat.beq_eq, Nat.blt_eq, Nat.ble_eq, decide_eq_true_eq, beq_iff_eq] at hok
      simp only [cdN, Nat.reduceAdd] at hok
      obtain ⟨rfl, ht⟩ := hok
      subst hlen
      (first | rw [pS_0] at h | rw [pS_1] at h | rw [pS_2] at h | rw [pS_3] at h | rw [pS_4] at h | rw [pS_5] at h | rw [pS_6] at h | rw [pS_7] at h | rw [pS_8] at h | rw [pS_9] at h | rw [pS_10] at h | rw [pS_11] at h | rw [pS_12] at h | rw [pS_13] at h | rw [pS_14] at h | rw [pS_15] at h | rw [pS_16] at h | rw [pS_17] at h | rw [pS_18] at h | rw [pS_19] at h | rw [pS_20] at h | rw [pS_21] at h | rw [pS_22] at h | rw [pS_23] at h | rw [pS_24] at h | rw [pS_25] at h | rw [pS_26] at h | rw [pS_27] at h | rw [pS_28] at h | rw [pS_29] at h | rw [pS_30] at h | rw [pS_31] at h | rw [pS_32] at h | rw [pS_33] at h | rw [pS_34] at h | rw [pS_35] at h | rw [pS_36] at h | rw [pS_37] at h | rw [pS_38] at h | rw [pS_39] at h | rw [pS_40] at h | rw [pS_41] at h | rw [pS_42] at h | rw [pS_43] at h | rw [pS_44] at h | rw [pS_45] at h | rw [pS_46] at h | rw [pS_47] at h | rw [pS_48] at h | rw [pS_49] at h | rw [pS_50] at h | rw [pS_51] at h | rw [pS_52] at h | rw [pS_53] at h | rw [pS_54] at h | rw [pS_55] at h | rw [pS_56] at h | rw [pS_57] at h | rw [pS_58] at h | rw [pS_59] at h | rw [pS_60] at h | rw [pS_61] at h | rw [pS_62] at h | rw [pS_63] at h | rw [pS_64] at h | rw [pS_65] at h | rw [pS_66] at h | rw [pS_67] at h)
      (have h0 := kII_i h); clear h; obtain ⟨v, w, r, rfl, h⟩ := h0
      have hr2 := (okL_c.mp (okL_c.mp hst).2).2
      refine lv_icmp_ge hx hb hd (of_decide_eq_true ht) (fun hc => go _ _ ?_ hr2) (fun hc => go _ _ ?_ hr2)
      · rw [if_pos hc] at h; exact h
      · rw [if_neg (hc)] at h; exact h
    · simp only [okI, Bool.and_eq_true, Bool.or_eq_true, Nat.beq_eq, Nat.blt_eq, Nat.ble_eq, decide_eq_true_eq, beq_iff_eq] at hok
      simp only [cdN, Nat.reduceAdd] at hok
      obtain ⟨rfl, ht⟩ := hok
      subst hlen
      (first | rw [pS_0] at h | rw [pS_1] at h | rw [pS_2] at h | rw [pS_3] at h | rw [pS_4] at h | rw [pS_5] at h | rw [pS_6] at h | rw [pS_7] at h | rw [pS_8] at h | rw [pS_9] at h | rw [pS_10] at h | rw [pS_11] at h | rw [pS_12] at h | rw [pS_13] at h | rw [pS_14] at h | rw [pS_15] at h | rw [pS_16] at h | rw [pS_17] at h | rw [pS_18] at h | rw [pS_19] at h | rw [pS_20] at h | rw [pS_21] at h | rw [pS_22] at h | rw [pS_23] at h | rw [pS_24] at h | rw [pS_25] at h | rw [pS_26] at h | rw [pS_27] at h | rw [pS_28] at h | rw [pS_29] at h | rw [pS_30] at h | rw [pS_31] at h | rw [pS_32] at h | rw [pS_33] at h | rw [pS_34] at h | rw [pS_35] at h | rw [pS_36] at h | rw [pS_37] at h | rw [pS_38] at h | rw [pS_39] at h | rw [pS_40] at h | rw [pS_41] at h | rw [pS_42] at h | rw [pS_43] at h | rw [pS_44] at h | rw [pS_45] at h | rw [pS_46] at h | rw [pS_47] at h | rw [pS_48] at h | rw [pS_49] at h | rw [pS_50] at h | rw [pS_51] at h | rw [pS_52] at h | rw [pS_53] at h | rw [pS_54] at h | rw [pS_55] at h | rw [pS_56] at h | rw [pS_57] at h | rw [pS_58] at h | rw [pS_59] at h | rw [pS_60] at h | rw [pS_61] at h | rw [pS_62] at h | rw [pS_63] at h | rw [pS_64] at h | rw [pS_65] at h | rw [pS_66] at h | rw [pS_67] at h)
      (have h0 := kII_i h); clear h; obtain ⟨v, w, r, rfl, h⟩ := h0
      have hr2 := (okL_c.mp (okL_c.mp hst).2).2
      refine lv_icmp_gt hx hb hd (of_decide_eq_true ht) (fun hc => go _ _ ?_ hr2) (fun hc => go _ _ ?_ hr2)
      · rw [if_pos hc] at h; exact h
      · rw [if_neg (hc)] at h; exact h
    · simp only [okI, Bool.and_eq_true, Bool.or_eq_true, Nat.beq_eq, Nat.blt_eq, Nat.ble_eq, decide_eq_true_eq, beq_iff_eq] at hok
      simp only [cdN, Nat.reduceAdd] at hok
      obtain ⟨rfl, ht⟩ := hok
      subst hlen
      (first | rw [pS_0] at h | rw [pS_1] at h | rw [pS_2] at h | rw [pS_3] at h | rw [pS_4] at h | rw [pS_5] at h | rw [pS_6] at h | rw [pS_7] at h | rw [pS_8] at h | rw [pS_9] at h | rw [pS_10] at h | rw [pS_11] at h | rw [pS_12] at h | rw [pS_13] at h | rw [pS_14] at h | rw [pS_15] at h | rw [pS_16] at h | rw [pS_17] at h | rw [pS_18] at h | rw [pS_19] at h | rw [pS_20] at h | rw [pS_21] at h | rw [pS_22] at h | rw [pS_23] at h | rw [pS_24] at h | rw [pS_25] at h | rw [pS_26] at h | rw [pS_27] at h | rw [pS_28] at h | rw [pS_29] at h | rw [pS_30] at h | rw [pS_31] at h | rw [pS_32] at h | rw [pS_33] at h | rw [pS_34] at h | rw [pS_35] at h | rw [pS_36] at h | rw [pS_37] at h | rw [pS_38] at h | rw [pS_39] at h | rw [pS_40] at h | rw [pS_41] at h | rw [pS_42] at h | rw [pS_43] at h | rw [pS_44] at h | rw [pS_45] at h | rw [pS_46] at h | rw [pS_47] at h | rw [pS_48] at h | rw [pS_49] at h | rw [pS_50] at h | rw [pS_51] at h | rw [pS_52] at h | rw [pS_53] at h | rw [pS_54] at h | rw [pS_55] at h | rw [pS_56] at h | rw [pS_57] at h | rw [pS_58] at h | rw [pS_59] at h | rw [pS_60] at h | rw [pS_61] at h | rw [pS_62] at h | rw [pS_63] at h | rw [pS_64] at h | rw [pS_65] at h | rw [pS_66] at h | rw [pS_67] at h)
      (have h0 := kII_i h); clear h; obtain ⟨v, w, r, rfl, h⟩ := h0
      have hr2 := (okL_c.mp (okL_c.mp hst).2).2
      refine lv_icmp_le hx hb hd (of_decide_eq_true ht) (fun hc => go _ _ ?_ hr2) (fun hc => go _ _ ?_ hr2)
      · rw [if_pos hc] at h; exact h
      · rw [if_neg (hc)] at h; exact h
  case ifCond cd zz =>
    simp only [ilen, Nat.beq_eq] at hlen
    cases cd
    · simp only [okI, Bool.and_eq_true, Bool.or_eq_true, Nat.beq_eq, Nat.blt_eq, Nat.ble_eq, decide_eq_true_eq, beq_iff_eq] at hok
      simp only [cdN, Nat.reduceAdd] at hok
      obtain ⟨rfl, ht⟩ := hok
      subst hlen
      (first | rw [pS_0] at h | rw [pS_1] at h | rw [pS_2] at h | rw [pS_3] at h | rw [pS_4] at h | rw [pS_5] at h | rw [pS_6] at h | rw [pS_7] at h | rw [pS_8] at h | rw [pS_9] at h | rw [pS_10] at h | rw [pS_11] at h | rw [pS_12] at h | rw [pS_13] at h | rw [pS_14] at h | rw [pS_15] at h | rw [pS_16] at h | rw [pS_17] at h | rw [pS_18] at h | rw [pS_19] at h | rw [pS_20] at h | rw [pS_21] at h | rw [pS_22] at h | rw [pS_23] at h | rw [pS_24] at h | rw [pS_25] at h | rw [pS_26] at h | rw [pS_27] at h | rw [pS_28] at h | rw [pS_29] at h | rw [pS_30] at h | rw [pS_31] at h | rw [pS_32] at h | rw [pS_33] at h | rw [pS_34] at h | rw [pS_35] at h | rw [pS_36] at h | rw [pS_37] at h | rw [pS_38] at h | rw [pS_39] at h | rw [pS_40] at h | rw [pS_41] at h | rw [pS_42] at h | rw [pS_43] at h | rw [pS_44] at h | rw [pS_45] at h | rw [pS_46] at h | rw [pS_47] at h | rw [pS_48] at h | rw [pS_49] at h | rw [pS_50] at h | rw [pS_51] at h | rw [pS_52] at h | rw [pS_53] at h | rw [pS_54] at h | rw [pS_55] at h | rw [pS_56] at h | rw [pS_57] at h | rw [pS_58] at h | rw [pS_59] at h | rw [pS_60] at h | rw [pS_61] at h | rw [pS_62] at h | rw [pS_63] at h | rw [pS_64] at h | rw [pS_65] at h | rw [pS_66] at h | rw [pS_67] at h)
      (have h0 := kI_i h); clear h; obtain ⟨v, r, rfl, h⟩ := h0
      have hr2 := (okL_c.mp hst).2
      refine lv_if_eq hx hb hd (of_decide_eq_true ht) (fun hc => go _ _ ?_ hr2) (fun hc => go _ _ ?_ hr2)
      · rw [if_pos hc] at h; exact h
      · rw [if_neg (hc)] at h; exact h
    · simp only [okI, Bool.and_eq_true, Bool.or_eq_true, Nat.beq_eq, Nat.blt_eq, Nat.ble_eq, decide_eq_true_eq, beq_iff_eq] at hok
      simp only [cdN, Nat.reduceAdd] at hok
      obtain ⟨rfl, ht⟩ := hok
      subst hlen
      (first | rw [pS_0] at h | rw [pS_1] at h | rw [pS_2] at h | rw [pS_3] at h | rw [pS_4] at h | rw [pS_5] at h | rw [pS_6] at h | rw [pS_7] at h | rw [pS_8] at h | rw [pS_9] at h | rw [pS_10] at h | rw [pS_11] at h | rw [pS_12] at h | rw [pS_13] at h | rw [pS_14] at h | rw [pS_15] at h | rw [pS_16] at h | rw [pS_17] at h | rw [pS_18] at h | rw [pS_19] at h | rw [pS_20] at h | rw [pS_21] at h | rw [pS_22] at h | rw [pS_23] at h | rw [pS_24] at h | rw [pS_25] at h | rw [pS_26] at h | rw [pS_27] at h | rw [pS_28] at h | rw [pS_29] at h | rw [pS_30] at h | rw [pS_31] at h | rw [pS_32] at h | rw [pS_33] at h | rw [pS_34] at h | rw [pS_35] at h | rw [pS_36] at h | rw [pS_37] at h | rw [pS_38] at h | rw [pS_39] at h | rw [pS_40] at h | rw [pS_41] at h | rw [pS_42] at h | rw [pS_43] at h | rw [pS_44] at h | rw [pS_45] at h | rw [pS_46] at h | rw [pS_47] at h | rw [pS_48] at h | rw [pS_49] at h | rw [pS_50] at h | rw [pS_51] at h | rw [pS_52] at h | rw [pS_53] at h | rw [pS_54] at h | rw [pS_55] at h | rw [pS_56] at h | rw [pS_57] at h | rw [pS_58] at h | rw [pS_59] at h | rw [pS_60] at h | rw [pS_61] at h | rw [pS_62] at h | rw [pS_63] at h | rw [pS_64] at h | rw [pS_65] at h | rw [pS_66] at h | rw [pS_67] at h)
      (have h0 := kI_i h); clear h; obtain ⟨v, r, rfl, h⟩ := h0
      have hr2 := (okL_c.mp hst).2
      refine lv_if_ne hx hb hd (of_decide_eq_true ht) (fun hc => go _ _ ?_ hr2) (fun hc => go _ _ ?_ hr2)
      · rw [if_pos hc] at h; exact h
      · rw [if_neg (fun hn => hn hc)] at h; exact h
    · simp only [okI, Bool.and_eq_true, Bool.or_eq_true, Nat.beq_eq, Nat.blt_eq, Nat.ble_eq, decide_eq_true_eq, beq_iff_eq] at hok
      simp only [cdN, Nat.reduceAdd] at hok
      obtain ⟨rfl, ht⟩ := hok
      subst hlen
      (first | rw [pS_0] at h | rw [pS_1] at h | rw [pS_2] at h | rw [pS_3] at h | rw [pS_4] at h | rw [pS_5] at h | rw [pS_6] at h | rw [pS_7] at h | rw [pS_8] at h | rw [pS_9] at h | rw [pS_10] at h | rw [pS_11] at h | rw [pS_12] at h | rw [pS_13] at h | rw [pS_14] at h | rw [pS_15] at h | rw [pS_16] at h | rw [pS_17] at h | rw [pS_18] at h | rw [pS_19] at h | rw [pS_20] at h | rw [pS_21] at h | rw [pS_22] at h | rw [pS_23] at h | rw [pS_24] at h | rw [pS_25] at h | rw [pS_26] at h | rw [pS_27] at h | rw [pS_28] at h | rw [pS_29] at h | rw [pS_30] at h | rw [pS_31] at h | rw [pS_32] at h | rw [pS_33] at h | rw [pS_34] at h | rw [pS_35] at h | rw [pS_36] at h | rw [pS_37] at h | rw [pS_38] at h | rw [pS_39] at h | rw [pS_40] at h | rw [pS_41] at h | rw [pS_42] at h | rw [pS_43] at h | rw [pS_44] at h | rw [pS_45] at h | rw [pS_46] at h | rw [pS_47] at h | rw [pS_48] at h | rw [pS_49] at h | rw [pS_50] at h | rw [pS_51] at h | rw [pS_52] at h | rw [pS_53] at h | rw [pS_54] at h | rw [pS_55] at h | rw [pS_56] at h | rw [pS_57] at h | rw [pS_58] at h | rw [pS_59] at h | rw [pS_60] at h | rw [pS_61] at h | rw [pS_62] at h | rw [pS_63] at h | rw [pS_64] at h | rw [pS_65] at h | rw [pS_66] at h | rw [pS_67] at h)
      (have h0 := kI_i h); clear h; obtain ⟨v, r, rfl, h⟩ := h0
      have hr2 := (okL_c.mp hst).2
      refine lv_if_lt hx hb hd (of_decide_eq_true ht) (fun hc => go _ _ ?_ hr2) (fun hc => go _ _ ?_ hr2)
      · rw [if_pos hc] at h; exact h
      · rw [if_neg (hc)] at h; exact h
    · simp only [okI, Bool.and_eq_true, Bool.or_eq_true, Nat.beq_eq, Nat.blt_eq, Nat.ble_eq, decide_eq_true_eq, beq_iff_eq] at hok
      simp only [cdN, Nat.reduceAdd] at hok
      obtain ⟨rfl, ht⟩ := hok
      subst hlen
      (first | rw [pS_0] at h | rw [pS_1] at h | rw [pS_2] at h | rw [pS_3] at h | rw [pS_4] at h | rw [pS_5] at h | rw [pS_6] at h | rw [pS_7] at h | rw [pS_8] at h | rw [pS_9] at h | rw [pS_10] at h | rw [pS_11] at h | rw [pS_12] at h | rw [pS_13] at h | rw [pS_14] at h | rw [pS_15] at h | rw [pS_16] at h | rw [pS_17] at h | rw [pS_18] at h | rw [pS_19] at h | rw [pS_20] at h | rw [pS_21] at h | rw [pS_22] at h | rw [pS_23] at h | rw [pS_24] at h | rw [pS_25] at h | rw [pS_26] at h | rw [pS_27] at h | rw [pS_28] at h | rw [pS_29] at h | rw [pS_30] at h | rw [pS_31] at h | rw [pS_32] at h | rw [pS_33] at h | rw [pS_34] at h | rw [pS_35] at h | rw [pS_36] at h | rw [pS_37] at h | rw [pS_38] at h | rw [pS_39] at h | rw [pS_40] at h | rw [pS_41] at h | rw [pS_42] at h | rw [pS_43] at h | rw [pS_44] at h | rw [pS_45] at h | rw [pS_46] at h | rw [pS_47] at h | rw [pS_48] at h | rw [pS_49] at h | rw [pS_50] at h | rw [pS_51] at h | rw [pS_52] at h | rw [pS_53] at h | rw [pS_54] at h | rw [pS_55] at h | rw [pS_56] at h | rw [pS_57] at h | rw [pS_58] at h | rw [pS_59] at h | rw [pS_60] at h | rw [pS_61] at h | rw [pS_62] at h | rw [pS_63] at h | rw [pS_64] at h | rw [pS_65] at h | rw [pS_66] at h | rw [pS_67] at h)
      (have h0 := kI_i h); clear h; obtain ⟨v, r, rfl, h⟩ := h0
      have hr2 := (okL_c.mp hst).2
      refine lv_if_ge hx hb hd (of_decide_eq_true ht) (fun hc => go _ _ ?_ hr2) (fun hc => go _ _ ?_ hr2)
      · rw [if_pos hc] at h; exact h
      · rw [if_neg (hc)] at h; exact h
    · simp only [okI, Bool.and_eq_true, Bool.or_eq_true, Nat.beq_eq, Nat.blt_eq, Nat.ble_eq, decide_eq_true_eq, beq_iff_eq] at hok
      simp only [cdN, Nat.reduceAdd] at hok
      obtain ⟨rfl, ht⟩ := hok
      subst hlen
      (first | rw [pS_0] at h | rw [pS_1] at h | rw [pS_2] at h | rw [pS_3] at h | rw [pS_4] at h | rw [pS_5] at h | rw [pS_6] at h | rw [pS_7] at h | rw [pS_8] at h | rw [pS_9] at h | rw [pS_10] at h | rw [pS_11] at h | rw [pS_12] at h | rw [pS_13] at h | rw [pS_14] at h | rw [pS_15] at h | rw [pS_16] at h | rw [pS_17] at h | rw [pS_18] at h | rw [pS_19] at h | rw [pS_20] at h | rw [pS_21] at h | rw [pS_22] at h | rw [pS_23] at h | rw [pS_24] at h | rw [pS_25] at h | rw [pS_26] at h | rw [pS_27] at h | rw [pS_28] at h | rw [pS_29] at h | rw [pS_30] at h | rw [pS_31] at h | rw [pS_32] at h | rw [pS_33] at h | rw [pS_34] at h | rw [pS_35] at h | rw [pS_36] at h | rw [pS_37] at h | rw [pS_38] at h | rw [pS_39] at h | rw [pS_40] at h | rw [pS_41] at h | rw [pS_42] at h | rw [pS_43] at h | rw [pS_44] at h | rw [pS_45] at h | rw [pS_46] at h | rw [pS_47] at h | rw [pS_48] at h | rw [pS_49] at h | rw [pS_50] at h | rw [pS_51] at h | rw [pS_52] at h | rw [pS_53] at h | rw [pS_54] at h | rw [pS_55] at h | rw [pS_56] at h | rw [pS_57] at h | rw [pS_58] at h | rw [pS_59] at h | rw [pS_60] at h | rw [pS_61] at h | rw [pS_62] at h | rw [pS_63] at h | rw [pS_64] at h | rw [pS_65] at h | rw [pS_66] at h | rw [pS_67] at h)
      (have h0 := kI_i h); clear h; obtain ⟨v, r, rfl, h⟩ := h0
      have hr2 := (okL_c.mp hst).2
      refine lv_if_gt hx hb hd (of_decide_eq_true ht) (fun hc => go _ _ ?_ hr2) (fun hc => go _ _ ?_ hr2)
      · rw [if_pos hc] at h; exact h
      · rw [if_neg (hc)] at h; exact h
    · simp only [okI, Bool.and_eq_true, Bool.or_eq_true, Nat.beq_eq, Nat.blt_eq, Nat.ble_eq, decide_eq_true_eq, beq_iff_eq] at hok
      simp only [cdN, Nat.reduceAdd] at hok
      obtain ⟨rfl, ht⟩ := hok
      subst hlen
      (first | rw [pS_0] at h | rw [pS_1] at h | rw [pS_2] at h | rw [pS_3] at h | rw [pS_4] at h | rw [pS_5] at h | rw [pS_6] at h | rw [pS_7] at h | rw [pS_8] at h | rw [pS_9] at h | rw [pS_10] at h | rw [pS_11] at h | rw [pS_12] at h | rw [pS_13] at h | rw [pS_14] at h | rw [pS_15] at h | rw [pS_16] at h | rw [pS_17] at h | rw [pS_18] at h | rw [pS_19] at h | rw [pS_20] at h | rw [pS_21] at h | rw [pS_22] at h | rw [pS_23] at h | rw [pS_24] at h | rw [pS_25] at h | rw [pS_26] at h | rw [pS_27] at h | rw [pS_28] at h | rw [pS_29] at h | rw [pS_30] at h | rw [pS_31] at h | rw [pS_32] at h | rw [pS_33] at h | rw [pS_34] at h | rw [pS_35] at h | rw [pS_36] at h | rw [pS_37] at h | rw [pS_38] at h | rw [pS_39] at h | rw [pS_40] at h | rw [pS_41] at h | rw [pS_42] at h | rw [pS_43] at h | rw [pS_44] at h | rw [pS_45] at h | rw [pS_46] at h | rw [pS_47] at h | rw [pS_48] at h | rw [pS_49] at h | rw [pS_50] at h | rw [pS_51] at h | rw [pS_52] at h | rw [pS_53] at h | rw [pS_54] at h | rw [pS_55] at h | rw [pS_56] at h | rw [pS_57] at h | rw [pS_58] at h | rw [pS_59] at h | rw [pS_60] at h | rw [pS_61] at h | rw [pS_62] at h | rw [pS_63] at h | rw [pS_64] at h | rw [pS_65] at h | rw [pS_66] at h | rw [pS_67] at h)
      (have h0 := kI_i h); clear h; obtain ⟨v, r, rfl, h⟩ := h0
      have hr2 := (okL_c.mp hst).2
      refine lv_if_le hx hb hd (of_decide_eq_true ht) (fun hc => go _ _ ?_ hr2) (fun hc => go _ _ ?_ hr2)
      · rw [if_pos hc] at h; exact h
      · rw [if_neg (hc)] at h; exact h
  case ifnull zz =>
    simp only [ilen, Nat.beq_eq] at hlen
    simp only [okI, Bool.and_eq_true, Bool.or_eq_true, Nat.beq_eq, Nat.blt_eq, Nat.ble_eq, decide_eq_true_eq, beq_iff_eq] at hok
    obtain ⟨rfl, ht⟩ := hok
    subst hlen
    (first | rw [pS_0] at h | rw [pS_1] at h | rw [pS_2] at h | rw [pS_3] at h | rw [pS_4] at h | rw [pS_5] at h | rw [pS_6] at h | rw [pS_7] at h | rw [pS_8] at h | rw [pS_9] at h | rw [pS_10] at h | rw [pS_11] at h | rw [pS_12] at h | rw [pS_13] at h | rw [pS_14] at h | rw [pS_15] at h | rw [pS_16] at h | rw [pS_17] at h | rw [pS_18] at h | rw [pS_19] at h | rw [pS_20] at h | rw [pS_21] at h | rw [pS_22] at h | rw [pS_23] at h | rw [pS_24] at h | rw [pS_25] at h | rw [pS_26] at h | rw [pS_27] at h | rw [pS_28] at h | rw [pS_29] at h | rw [pS_30] at h | rw [pS_31] at h | rw [pS_32] at h | rw [pS_33] at h | rw [pS_34] at h | rw [pS_35] at h | rw [pS_36] at h | rw [pS_37] at h | rw [pS_38] at h | rw [pS_39] at h | rw [pS_40] at h | rw [pS_41] at h | rw [pS_42] at h | rw [pS_43] at h | rw [pS_44] at h | rw [pS_45] at h | rw [pS_46] at h | rw [pS_47] at h | rw [pS_48] at h | rw [pS_49] at h | rw [pS_50] at h | rw [pS_51] at h | rw [pS_52] at h | rw [pS_53] at h | rw [pS_54] at h | rw [pS_55] at h | rw [pS_56] at h | rw [pS_57] at h | rw [pS_58] at h | rw [pS_59] at h | rw [pS_60] at h | rw [pS_61] at h | rw [pS_62] at h | rw [pS_63] at h | rw [pS_64] at h | rw [pS_65] at h | rw [pS_66] at h | rw [pS_67] at h)
    (have h0 := kAn_i h); clear h; obtain ⟨v, r, rfl, h⟩ := h0
    have hr2 := (okL_c.mp hst).2
    cases v with
    | none => exact lv_ifnullN hx hb hd (of_decide_eq_true ht) (go _ _ h hr2)
    | some q => exact lv_ifnull hx hb hd (go _ _ h hr2)
  case ifnonnull zz =>
    simp only [ilen, Nat.beq_eq] at hlen
    simp only [okI, Bool.and_eq_true, Bool.or_eq_true, Nat.beq_eq, Nat.blt_eq, Nat.ble_eq, decide_eq_true_eq, beq_iff_eq] at hok
    obtain ⟨rfl, ht⟩ := hok
    subst hlen
    (first | rw [pS_0] at h | rw [pS_1] at h | rw [pS_2] at h | rw [pS_3] at h | rw [pS_4] at h | rw [pS_5] at h | rw [pS_6] at h | rw [pS_7] at h | rw [pS_8] at h | rw [pS_9] at h | rw [pS_10] at h | rw [pS_11] at h | rw [pS_12] at h | rw [pS_13] at h | rw [pS_14] at h | rw [pS_15] at h | rw [pS_16] at h | rw [pS_17] at h | rw [pS_18] at h | rw [pS_19] at h | rw [pS_20] at h | rw [pS_21] at h | rw [pS_22] at h | rw [pS_23] at h | rw [pS_24] at h | rw [pS_25] at h | rw [pS_26] at h | rw [pS_27] at h | rw [pS_28] at h | rw [pS_29] at h | rw [pS_30] at h | rw [pS_31] at h | rw [pS_32] at h | rw [pS_33] at h | rw [pS_34] at h | rw [pS_35] at h | rw [pS_36] at h | rw [pS_37] at h | rw [pS_38] at h | rw [pS_39] at h | rw [pS_40] at h | rw [pS_41] at h | rw [pS_42] at h | rw [pS_43] at h | rw [pS_44] at h | rw [pS_45] at h | rw [pS_46] at h | rw [pS_47] at h | rw [pS_48] at h | rw [pS_49] at h | rw [pS_50] at h | rw [pS_51] at h | rw [pS_52] at h | rw [pS_53] at h | rw [pS_54] at h | rw [pS_55] at h | rw [pS_56] at h | rw [pS_57] at h | rw [pS_58] at h | rw [pS_59] at h | rw [pS_60] at h | rw [pS_61] at h | rw [pS_62] at h | rw [pS_63] at h | rw [pS_64] at h | rw [pS_65] at h | rw [pS_66] at h | rw [pS_67] at h)
    (have h0 := kAn_i h); clear h; obtain ⟨v, r, rfl, h⟩ := h0
    have hr2 := (okL_c.mp hst).2
    cases v with
    | none => exact lv_ifnonnullN hx hb hd (go _ _ h hr2)
    | some q => exact lv_ifnonnull hx hb hd (of_decide_eq_true ht) (go _ _ h hr2)
  case tableswitch dd lo hi offs =>
    simp only [okI, Bool.and_eq_true, Nat.beq_eq, decide_eq_true_eq] at hok
    obtain ⟨⟨⟨⟨⟨⟨rfl, hw⟩, hhi⟩, h0⟩, hall⟩, hlo⟩, hhi2⟩ := hok
    rw [pS_37] at h
    (have h0 := kI_i h); clear h; obtain ⟨v, r, rfl, h⟩ := h0
    rw [hw] at h
    dsimp only at h
    have hr2 := (okL_c.mp hst).2
    have hsz : offs.toList.length = offs.size := Array.length_toList
    rcases kSw_t offs.toList lo (by omega) (by omega) h with ⟨j, y, g1, g2, g3⟩ | ⟨g1, g2⟩
    · have hjl : j < offs.toList.length := (List.getElem?_eq_some_iff.mp g1).1
      have hy : 0 ≤ (pc : Int) + y := of_decide_eq_true (List.all_eq_true.mp hall y (List.mem_of_getElem? g1))
      refine lv_tableIn (off := y) (tgt := ((pc : Int) + y).toNat) hx hb hd (by omega) (by omega) ?_ (by omega) (go _ _ g3 hr2)
      have e1 : (v.toInt - lo).toNat = j := by omega
      rw [e1, ← Array.getElem?_toList]
      exact g1
    · exact lv_tableOut (tgt := ((pc : Int) + dd).toNat) hx hb hd (by omega) (by omega) (go _ _ g2 hr2)
  case lookupswitch dd ps =>
    simp only [okI, Bool.and_eq_true, Nat.beq_eq, decide_eq_true_eq] at hok
    obtain ⟨⟨⟨⟨rfl, hw⟩, h0⟩, hall⟩, hsrt⟩ := hok
    rw [pS_37] at h
    (have h0 := kI_i h); clear h; obtain ⟨v, r, rfl, h⟩ := h0
    rw [hw] at h
    dsimp only at h
    have hr2 := (okL_c.mp hst).2
    have hall2 : ∀ q ∈ ps.toList, 0 ≤ (pc : Int) + q.2 ∧ -1000000 < q.1 ∧ q.1 < 1000000 := by
      intro q hq
      have := List.all_eq_true.mp hall q hq
      simp only [Bool.and_eq_true, decide_eq_true_eq] at this
      exact ⟨this.1.1, this.1.2, this.2⟩
    have g := kSw_l ps.toList (fun q hq => (hall2 q hq).2) h
    refine lv_lookup (off := Op.lookupswitch.offset ps.toList dd v.toInt) (tgt := ((pc : Int) + Op.lookupswitch.offset ps.toList dd v.toInt).toNat) hx hb hd hsrt rfl ?_ (go _ _ g hr2)
    rcases off_in (dd := dd) (k := v.toInt) ps.toList with e1 | ⟨q, hq, e1⟩
    · rw [e1]; omega
    · rw [e1]; have := (hall2 q hq).1; omega
  case getfield k => exfalso; simp only [okI, Bool.and_eq_true, Bool.or_eq_true, Nat.beq_eq] at hok; obtain ⟨-, h9⟩ := hok; omega
  case putfield k => exfalso; simp only [okI, Bool.and_eq_true, Bool.or_eq_true, Nat.beq_eq] at hok; obtain ⟨⟨-, h9⟩, -⟩ := hok; rcases h9 with ⟨h9, -⟩ | ⟨h9, -⟩ <;> omega
  case new k => exfalso; simp only [okI, Bool.and_eq_true, Bool.or_eq_true, Nat.beq_eq] at hok; rcases hok with ⟨⟨⟨h9, -⟩, -⟩, -⟩ | ⟨⟨⟨⟨⟨⟨⟨h9, -⟩, -⟩, -⟩, -⟩, -⟩, -⟩, -⟩ <;> omega
  case invokevirtual k => exfalso; simp only [okI, Bool.and_eq_true, Bool.or_eq_true, Nat.beq_eq] at hok; rcases hok with (⟨h9, -⟩ | ⟨h9, -⟩) | ⟨h9, -⟩ <;> omega
  case invokestatic k => exfalso; simp only [okI, Bool.and_eq_true, Bool.or_eq_true, Nat.beq_eq] at hok; rcases hok with (((⟨h9, -⟩ | ⟨h9, -⟩) | ⟨h9, -⟩) | ⟨h9, -⟩) | ⟨h9, -⟩ <;> omega
  case invokespecial k => exfalso; simp only [okI, Bool.and_eq_true, Bool.or_eq_true, Nat.beq_eq] at hok; rcases hok with (⟨h9, -⟩ | ⟨h9, -⟩) | h9 <;> omega
  case newarray at_ => exfalso; cases at_ <;> simp [okI] at hok <;> omega
  all_goals first | (simp [okI] at hok; done) | (exfalso; simp [okI] at hok; omega)
