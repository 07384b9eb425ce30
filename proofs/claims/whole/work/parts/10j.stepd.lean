theorem lnkB {M idx b : Nat} (h : lkT MLt (mO M) idx = some (b, 0)) : Cond.methodLink (oS (mO M)) idx (yOf b) ∈ wT := by
  have h1 := MLt_ok h
  simpa [lW4, lW] using h1
theorem w_objI : Cond.instanceMethod objectInit ∈ wT := wT_in 131 (by decide +kernel) rfl
theorem w_objC : Cond.code objectInit ⟨#[0xb1]⟩ 1 none ∈ wT := wT_in 132 (by decide +kernel) rfl
theorem w_maxS : Cond.static Lib.Math.max.name ∈ wT := wT_in 460 (by decide +kernel) rfl
theorem w_maxC : Cond.code Lib.Math.max.name Lib.Math.max.code 2 (some .int) ∈ wT := wT_in 461 (by decide +kernel) rfl
theorem w_minS : Cond.static Lib.Math.min.name ∈ wT := wT_in 457 (by decide +kernel) rfl
theorem w_minC : Cond.code Lib.Math.min.name Lib.Math.min.code 2 (some .int) ∈ wT := wT_in 458 (by decide +kernel) rfl
theorem w_mnlS : Cond.static Lib.MathLoose.min_long.x ∈ wT := wT_in 1171 (by decide +kernel) rfl
theorem w_mnlC : Cond.code Lib.MathLoose.min_long.x Lib.MathLoose.min_long.code 4 (some .long) ∈ wT := wT_in 1172 (by decide +kernel) rfl
theorem w_mathI : Cond.initialized "java/lang/Math" ∈ wT := wT_in 110 (by decide +kernel) rfl
theorem w_sysI : Cond.initialized "java/lang/System" ∈ wT := wT_in 107 (by decide +kernel) rfl
theorem w_cpN : Cond.native arraycopyName ∈ wT := wT_in 283 (by decide +kernel) rfl
theorem w_cpS : Cond.static arraycopyName ∈ wT := wT_in 282 (by decide +kernel) rfl
/-- the words of a throw -/
def xNm : List String := ["java/lang/RuntimeException", "java/lang/Exception"]
set_option maxRecDepth 100000 in
theorem xAt : ∀ a, a < 2 → ((vx_at0 "StillYear" (348 + 3 * a) (eC a) xNm).all (fun w => decide (w ∈ wT) || (decide (w = .castable (eC a) (eC a)) || decide (w ∈ xDl.map Cond.declares))) && (vx_at0 "StillYear" (348 + 3 * a) (eC a) xNm).all vx_ot && Bundle.fit (eC a) && xNm.all Bundle.fit) = true := by decide +kernel
set_option maxHeartbeats 4000000 in
set_option maxRecDepth 10000 in
theorem stepD {l : Launch} (hl : l.stackTraces = false) {D : va_G} {E : pEnv} {M d : Nat} {p : Program} {e : Env} {R : Room} {s : State} {m : MethodId} {args : Array Value} {below : List Frame} {meth : Method} {c : Code} {A : Nat → Prop} {n0 sl0 : Nat} {Q : State → Prop} {C : Nat → List Value → pS → pR} {K : Nat → List Value → List Value → pS → pR} {out : pO} {S' : pS} {as : Nat → Nat} {S : pS} {pc len op : Nat} {x : Int} {a b : Nat} {i : Instr} {ls st : List Value} {H : Heap} {locs : List Loc} {mls : Array Slot}
    (cx : Cx M p s m args meth c) (hE : EF E A s s.heap) (hA : ∀ q, s.heap.size ≤ q → A q) (hW : Wd D E A as S s H) (hS : va_S A s.heap H locs) (hL : LV (mJ M) as mls (mxL M) ls) (hls : okL S.1 ls) (hst : okL S.1 st) (hn0 : n0 ≤ S.1) (hsl0 : sl0 ≤ S.2.1)
    (hge : ∀ pc ls st (S1 : pS), ge_ S1.1 S1.2.1 (K pc ls st S1)) (hz : S'.1 ≤ 601024) (hfr : d + 10 ≤ R.frames) (hlo : 40 * d + 400 ≤ R.locals) (hRc : S'.1 - n0 ≤ R.cells) (hRs : S'.2.1 - sl0 ≤ R.slots)
    (hd : decode (mB M) pc = .ok (i, len)) (hlen : ilen i len = true) (hok : okI M pc op x a b i = true) (hop : op = 54 ∨ (58 ≤ op ∧ op ≠ 60 ∧ op ≠ 61 ∧ op ≠ 67)) (h : pStep C K M pc (len, op, x, a, b) ls st S = some (out, S')) (ct : Ct l D E M p e R s m args below meth c A n0 sl0 Q K (out, S') as S) (hfin : Fin_ l D E M p e R s m args below meth c A as S n0 sl0 out S' Q) :
    W p l e R s m args below meth c H locs (S.1 - n0) (S.2.1 - sl0) Q (F0 m pc mls (st.map (rv as))) := by
  have cx0 := cx
  obtain ⟨hx, hb, hr, hlk, hml, hown, hts, hin, htb⟩ := cx
  have go : ∀ (pc' : Nat) (st' : List Value), K pc' ls st' S = some (out, S') → okL S.1 st' → W p l e R s m args below meth c H locs (S.1 - n0) (S.2.1 - sl0) Q (F0 m pc' mls (st'.map (rv as))) := fun pc' st' hk ho => ct pc' ls mls st' S as H locs hk (fun _ _ => rfl) hW hS hL hls ho (Nat.le_refl _) (Nat.le_refl _)
  have room0 : ∀ (pc' : Nat) (st' : List Value), K pc' ls st' S = some (out, S') → S.1 - n0 ≤ R.cells ∧ S.2.1 - sl0 ≤ R.slots := by
    intro pc' st' hk
    have h1 := hge pc' ls st' S out S' hk
    have := h1.1
    have := h1.2
    omega
  have hmls : c.maxLocals = mls.size := hml.trans hL.1.symm
  cases i
  case ireturn =>
    simp only [ilen, Nat.beq_eq] at hlen
    simp only [okI, Bool.and_eq_true, Bool.or_eq_true, Nat.beq_eq, Nat.blt_eq, Nat.ble_eq, decide_eq_true_eq, beq_iff_eq] at hok
    subst hlen
    rcases hok with ⟨rfl, ht⟩ | ⟨rfl, ht⟩
    · rw [pS_62] at h
      (have h0 := kI_i h); clear h; obtain ⟨v, r, rfl, h⟩ := h0
      cases r with
      | nil => cases h; exact hfin as H locs mls pc (fun _ _ => rfl) hW hS (fun w e => by cases e; trivial) hd (Or.inl ht)
      | cons _ _ => cases h
    · rw [pS_66] at h
      (have h0 := kI_i h); clear h; obtain ⟨v, r, rfl, h⟩ := h0
      cases r with
      | nil =>
        by_cases hv : v &&& 1 = v
        · simp only [hv, if_true] at h; cases h; exact hfin as H locs mls pc (fun _ _ => rfl) hW hS (fun w e => by cases e; trivial) hd (Or.inr ⟨ht, hv⟩)
        · simp only [hv, if_false] at h; cases h
      | cons _ _ => cases h
  case lreturn =>
    simp only [ilen, Nat.beq_eq] at hlen
    simp only [okI, Bool.and_eq_true, Bool.or_eq_true, Nat.beq_eq, Nat.blt_eq, Nat.ble_eq, decide_eq_true_eq, beq_iff_eq] at hok
    subst hlen
    obtain ⟨rfl, ht⟩ := hok
    rw [pS_63] at h
    (have h0 := kJ_i h); clear h; obtain ⟨v, r, rfl, h⟩ := h0
    cases r with
    | nil => cases h; exact hfin as H locs mls pc (fun _ _ => rfl) hW hS (fun w e => by cases e; trivial) hd ht
    | cons _ _ => cases h
  case areturn =>
    simp only [ilen, Nat.beq_eq] at hlen
    simp only [okI, Bool.and_eq_true, Bool.or_eq_true, Nat.beq_eq, Nat.blt_eq, Nat.ble_eq, decide_eq_true_eq, beq_iff_eq] at hok
    subst hlen
    obtain ⟨rfl, ht⟩ := hok
    rw [pS_64] at h
    (have h0 := kA_i h); clear h; obtain ⟨v, r, rfl, h⟩ := h0
    cases r with
    | nil =>
      cases h
      refine hfin as H locs mls pc (fun _ _ => rfl) hW hS (fun w e => by cases e; exact (okL_c.mp hst).1) hd ?_
      cases hm : mT M with
      | none => rw [hm] at ht; cases ht
      | some t => rw [hm] at ht; exact ⟨t, hm, ht⟩
    | cons _ _ => cases h
  case return_ =>
    simp only [ilen, Nat.beq_eq] at hlen
    simp only [okI, Bool.and_eq_true, Bool.or_eq_true, Nat.beq_eq, Nat.blt_eq, Nat.ble_eq, decide_eq_true_eq, beq_iff_eq] at hok
    subst hlen
    obtain ⟨rfl, ht⟩ := hok
    rw [pS_65] at h
    cases st with
    | nil => cases h; exact hfin as H locs mls pc (fun _ _ => rfl) hW hS (fun w e => by cases e) hd ht
    | cons _ _ => cases h
  case new k =>
    simp only [ilen, Nat.beq_eq] at hlen
    simp only [okI, Bool.and_eq_true, Bool.or_eq_true, Nat.beq_eq, Nat.blt_eq, decide_eq_true_eq] at hok
    subst hlen
    rcases hok with ⟨⟨⟨h9, -⟩, -⟩, -⟩ | ⟨⟨⟨⟨⟨⟨⟨rfl, ha⟩, hcl⟩, d3⟩, d4⟩, d7⟩, hmo⟩, hmk⟩
    · omega
    · rw [pS_54] at h
      obtain ⟨hwt, h⟩ := bf_i h
      cases h
      obtain ⟨Qc, XC, rfl, hnt, hxc⟩ := hfin
      have hws := xAt a ha
      simp only [Bool.and_eq_true] at hws
      obtain ⟨⟨⟨w1, w2⟩, w3⟩, w4⟩ := hws
      have hmo2 : oS (mO M) = "StillYear" := by rw [hmo]; rfl
      rw [hmo2] at hown
      have hcl2 := hts _ (CL_ok _ (List.contains_iff_mem.mp hcl))
      have hcn : clN (100 + a) = eC a := by
        have : Nat.ble 100 (100 + a) = true := Nat.ble_eq_true_of_le (by omega)
        simp [clN, this]
      simp only [cW, hcn, hmo2] at hcl2
      have hini : (Cond.initialized (eC a)).before args s = true := by
        have hz2 : ∀ c, c < 2 → ∃ q ∈ INz, q.2 = 100 + c := by decide +kernel
        obtain ⟨q, hq, hq2⟩ := hz2 a ha
        have := hts _ (INz_ok q hq)
        rw [hq2] at this
        simpa only [zW, hcn] using this
      have hcast := hE.2.2.2.2.2.2.1.1 a ha
      refine vx_throw0 (own := "StillYear") (cls := eC a) (names := xNm) (ik := k) (ic := 348 + 3 * a) (A := A) hx hb hl hown w3 (fun n hn => List.all_eq_true.mp w4 n hn) hcl2 hini ?_ ?_ hE.1.1 hE.1.2.1 hS hmls.symm hd d3 d4 d7 (fun x hx => (hnt x hx).elim) (by show 2 + 3 < R.frames; omega) ?_ ?_ ?_ hlk ?_ (fun z hz => hS.2.2 z hz) ?_ ?_
      · intro w hw
        have := List.all_eq_true.mp w1 w hw
        simp only [Bool.or_eq_true, decide_eq_true_eq] at this
        rcases this with h1 | rfl | h1
        · exact hts w h1
        · exact va_Nw.use rfl hcast
        · obtain ⟨y, hy, rfl⟩ := List.mem_map.mp h1
          exact va_Nw.use rfl (hE.1.2.2 y hy)
      · intro w hw
        simp only [List.mem_cons] at hw
        rcases hw with rfl | rfl | hw
        · rfl
        · rfl
        · exact List.all_eq_true.mp w2 w hw
      · have := stW_i (as := as) hwt
        show _ + (13 * (2 + 1) + 42) ≤ _
        omega
      · show S.1 - n0 + 1 ≤ R.cells
        have : (pEx S).1 = S.1 + 1 := rfl
        omega
      · show S.2.1 - sl0 + 6 ≤ R.slots
        have : (pEx S).2.1 = S.2.1 + 6 := rfl
        omega
      · intro t hal hsz hkp
        obtain ⟨tys, ws, hK, hP, hD, hHR, hAs⟩ := hW
        refine hxc as S t rfl rfl (Nat.le_refl _) (fun _ _ => rfl) ⟨tys, ws, va_K.moved hal hK, hP.kept (fun k q hk => hkp q.1 (vx_lt hP hk)), hD, hHR, hAs⟩ ⟨Nat.le_trans hS.1 hsz, fun q h1 h2 => ?_⟩
        rw [hkp q (Nat.lt_of_lt_of_le h1 hS.1)]
        exact hS.2.1 q h1 h2
      · have : (pEx S).1 = S.1 + 1 := rfl
        omega
      · have : (pEx S).2.1 = S.2.1 + 6 := rfl
        omega
  case invokespecial k =>
    simp only [ilen, Nat.beq_eq] at hlen
    subst hlen
    simp only [okI, Bool.and_eq_true, Bool.or_eq_true, Nat.beq_eq, beq_iff_eq] at hok
    rcases hok with (⟨h9, -⟩ | ⟨rfl, hlnk⟩) | rfl
    · omega
    · rw [pS_58] at h
      (have h0 := kA_i h); clear h; obtain ⟨q, r, rfl, h⟩ := h0
      obtain ⟨hwt, h⟩ := bf_i h
      have h2 := go _ r h (okL_c.mp hst).2
      have hwt2 := stW_i (as := as) hwt
      refine W.objInit hx hb hown (hts _ (lnkB hlnk)) (hts _ w_objI) (hts _ w_objC) rfl hmls.symm rfl hd (by omega) ?_ h2
      show 2 * 0 + _ + 12 ≤ _
      omega
    · cases h
  case invokestatic k =>
    simp only [ilen, Nat.beq_eq] at hlen
    subst hlen
    simp only [okI, Bool.and_eq_true, Bool.or_eq_true, Nat.beq_eq, beq_iff_eq] at hok
    rcases hok with (((⟨h9, -⟩ | ⟨rfl, hlnk⟩) | ⟨rfl, hlnk⟩) | ⟨rfl, hlnk⟩) | ⟨rfl, hlnk⟩
    · omega
    · rw [pS_59] at h
      (have h0 := kII_i h); clear h; obtain ⟨dp, n, r, rfl, h⟩ := h0
      (have h0 := kA_i h); clear h; obtain ⟨q1, r, rfl, h⟩ := h0
      (have h0 := kIA_i h); clear h; obtain ⟨q0, sp, r, rfl, h⟩ := h0
      obtain ⟨hwt, h⟩ := bf_i h
      obtain ⟨S1, hcp, h⟩ := bd_i h
      obtain ⟨n0', f, n1, g, c0, c1, k1, k2, k3, k4, k5, rfl⟩ := pCp_i hcp
      obtain ⟨tys, ws, hK, hP, hD, hHR, hAs⟩ := hW
      obtain ⟨j0, t0, cA0, hj0, ht0⟩ := HR_int hHR c0
      obtain ⟨j1, t1, cA1, hj1, ht1⟩ := HR_int hHR c1
      have hwt2 := stW_i (as := as) hwt
      have hr2 : okL S.1 r := (okL_c.mp (okL_c.mp (okL_c.mp (okL_c.mp (okL_c.mp hst).2).2).2).2).2
      refine va_copyi (D := D) (ty := .int) hx hb hmls hown (hts _ (lnkB hlnk)) (hts _ w_cpN) (hts _ w_cpS) (hts _ w_sysI) hK hP hD hS j0 j1 t0 t1 hj0 hj1 ht0 ht1 rfl k1 k2 k3 k4 k5 (fun _ _ => rfl) (by omega) ?_ hd (fun H1 locs1 hP1 hD1 hS1 => ?_)
      · have : nativeFrameWords "java/lang/System" "arraycopy" 5 ≤ 100 := by decide +kernel
        omega
      · exact ct _ ls mls r (pSet S q1 (cI n1 (va_cpy f g sp.toNatClampNeg dp.toNatClampNeg n.toNatClampNeg))) as H1 locs1 h (fun _ _ => rfl) ⟨tys, _, hK, hP1, hD1, HR_set (A := A) hHR c1 (by rintro ⟨_, _, h⟩; cases h) hj1 ⟨cA1, List.mem_of_getElem? ht1, rfl⟩, AsE_set hAs (by rintro ⟨_, _, h⟩; cases h)⟩ hS1 hL hls hr2 (Nat.le_refl _) (Nat.le_refl _)
    · rw [pS_68] at h
      (have h0 := kII_i h); clear h; obtain ⟨v, w, r, rfl, h⟩ := h0
      obtain ⟨hwt, h⟩ := bf_i h
      have hwt2 := stW_i (as := as) hwt
      have hr0 := room0 _ _ h
      exact va_mmax hx hb hmls hown (hts _ (lnkB hlnk)) (hts _ w_maxS) (hts _ w_mathI) (hts _ w_maxC) (by omega) (by omega) hr0.1 hr0.2 hd (go _ _ h (okL_c.mpr ⟨trivial, (okL_c.mp (okL_c.mp hst).2).2⟩))
    · rw [pS_69] at h
      (have h0 := kII_i h); clear h; obtain ⟨v, w, r, rfl, h⟩ := h0
      obtain ⟨hwt, h⟩ := bf_i h
      have hwt2 := stW_i (as := as) hwt
      have hr0 := room0 _ _ h
      exact va_mmin hx hb hmls hown (hts _ (lnkB hlnk)) (hts _ w_minS) (hts _ w_mathI) (hts _ w_minC) (by omega) (by omega) hr0.1 hr0.2 hd (go _ _ h (okL_c.mpr ⟨trivial, (okL_c.mp (okL_c.mp hst).2).2⟩))
    · rw [pS_70] at h
      (have h0 := kJJ_i h); clear h; obtain ⟨v, w, r, rfl, h⟩ := h0
      obtain ⟨hwt, h⟩ := bf_i h
      have hwt2 := stW_i (as := as) hwt
      have hr0 := room0 _ _ h
      exact va_mmin_long hx hb hmls hown (hts _ (lnkB hlnk)) (hts _ w_mnlS) (hts _ w_mathI) (hts _ w_mnlC) (by omega) (by omega) hr0.1 hr0.2 hd (go _ _ h (okL_c.mpr ⟨trivial, (okL_c.mp (okL_c.mp hst).2).2⟩))
  case athrow =>
    simp only [okI, Nat.beq_eq] at hok
    subst hok
    cases h
  case if_icmp cd zz => exfalso; cases cd <;> simp [okI, cdN] at hok <;> omega
  case ifCond cd zz => exfalso; cases cd <;> simp [okI, cdN] at hok <;> omega
  case getfield k => exfalso; simp only [okI, Bool.and_eq_true, Bool.or_eq_true, Nat.beq_eq] at hok; obtain ⟨-, h9⟩ := hok; omega
  case putfield k => exfalso; simp only [okI, Bool.and_eq_true, Bool.or_eq_true, Nat.beq_eq] at hok; obtain ⟨⟨-, h9⟩, -⟩ := hok; rcases h9 with ⟨h9, -⟩ | ⟨h9, -⟩ <;> omega
  case newarray at_ => exfalso; cases at_ <;> simp [okI] at hok <;> omega
  case ldc k => exfalso; simp only [okI, Bool.and_eq_true, Bool.or_eq_true, Nat.beq_eq] at hok; rcases hok with ⟨h9, -⟩ | ⟨h9, -⟩ <;> omega
  case ldc_w k => exfalso; simp only [okI, Bool.and_eq_true, Bool.or_eq_true, Nat.beq_eq] at hok; rcases hok with ⟨h9, -⟩ | ⟨h9, -⟩ <;> omega
  case invokevirtual k => exfalso; simp only [okI, Bool.and_eq_true, Bool.or_eq_true, Nat.beq_eq] at hok; rcases hok with (⟨h9, -⟩ | ⟨h9, -⟩) | ⟨h9, -⟩ <;> omega
  all_goals first | (simp [okI] at hok; done) | (exfalso; simp [okI] at hok; omega)
