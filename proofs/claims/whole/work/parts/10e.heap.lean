theorem arrI_in : Cond.arrayClass (newarray.typeOf .int) ∈ wT := wT_in 163 (by decide +kernel) rfl
theorem arrJ_in : Cond.arrayClass (newarray.typeOf .long) ∈ wT := wT_in 1993 (by decide +kernel) rfl
theorem zW_in (a : Nat) (ha : a < 12) : zW a ∈ wT := by
  have hz : ∀ c, c < 12 → ∃ q ∈ INz, q.2 = c := by decide +kernel
  obtain ⟨q, hq, rfl⟩ := hz a ha
  exact INz_ok q hq
theorem AsE_set {E : pEnv} {as : Nat → Nat} {S : pS} {q : Nat} {c : pC} (h : AsE E as S) (hc : ¬ ∃ k f, c = cT k f) : AsE E as (pSet S q c) := by
  refine ⟨h.1, h.2.1, fun i k f hi => ?_⟩
  by_cases e : i = q
  · subst e
    simp only [pSet, if_true, Option.some.injEq] at hi
    exact absurd ⟨k, f, hi⟩ hc
  · simp only [pSet, e, if_false] at hi
    exact h.2.2 i k f hi
theorem AsE_new {E : pEnv} {as : Nat → Nat} {S : pS} {q sl : Nat} {c : pC} (h : AsE E as S) (hc : ¬ ∃ k f, c = cT k f) (hn : S.1 < pSB) : AsE E (asN as S.1 q) (pNew S c sl) := by
  have old := asN_old (as := as) (q := q) hn
  refine ⟨fun i hi => by rw [old _ (Or.inr (Nat.le_add_right _ _))]; exact h.1 i hi, by rw [old _ (Or.inr (Nat.le_add_right _ _))]; exact h.2.1, fun i k f hi => ?_⟩
  by_cases e : i = S.1
  · subst e
    simp only [pNew, if_true, Option.some.injEq] at hi
    exact absurd ⟨k, f, hi⟩ hc
  · simp only [pNew, e, if_false] at hi
    exact h.2.2 i k f hi
theorem rv_rf (as : Nat → Nat) (v : Option Nat) : rv as (va_rf v) = va_rf (v.map as) := by cases v <;> rfl
set_option maxHeartbeats 4000000 in
set_option maxRecDepth 10000 in
theorem stepB {l : Launch} {D : va_G} {E : pEnv} {M : Nat} {p : Program} {e : Env} {R : Room} {s : State} {m : MethodId} {args : Array Value} {below : List Frame} {meth : Method} {c : Code} {A : Nat → Prop} {n0 sl0 : Nat} {Q : State → Prop} {C : Nat → List Value → pS → pR} {K : Nat → List Value → List Value → pS → pR} {z : pO × pS} {as : Nat → Nat} {S : pS} {pc len op : Nat} {x : Int} {a b : Nat} {i : Instr} {ls st : List Value} {H : Heap} {locs : List Loc} {mls : Array Slot}
    (cx : Cx M p s m args meth c) (hE : EF E A s s.heap) (hA : ∀ q, s.heap.size ≤ q → A q) (hW : Wd D E A as S s H) (hS : va_S A s.heap H locs) (hL : LV (mJ M) as mls (mxL M) ls) (hls : okL S.1 ls) (hst : okL S.1 st) (hn0 : n0 ≤ S.1) (hsl0 : sl0 ≤ S.2.1)
    (hge : ∀ pc ls st (S1 : pS), ge_ S1.1 S1.2.1 (K pc ls st S1)) (hz : z.2.1 ≤ 601024) (hRc : z.2.1 - n0 ≤ R.cells) (hRs : z.2.2.1 - sl0 ≤ R.slots)
    (hd : decode (mB M) pc = .ok (i, len)) (hlen : ilen i len = true) (hok : okI M pc op x a b i = true) (hop : 38 ≤ op ∧ op < 54) (h : pStep C K M pc (len, op, x, a, b) ls st S = some z) (ct : Ct l D E M p e R s m args below meth c A n0 sl0 Q K z as S) :
    W p l e R s m args below meth c H locs (S.1 - n0) (S.2.1 - sl0) Q (F0 m pc mls (st.map (rv as))) := by
  obtain ⟨hx, hb, hr, hlk, hml, hown, hts, hin, htb⟩ := cx
  have go : ∀ (pc' : Nat) (st' : List Value), K pc' ls st' S = some z → okL S.1 st' → W p l e R s m args below meth c H locs (S.1 - n0) (S.2.1 - sl0) Q (F0 m pc' mls (st'.map (rv as))) := fun pc' st' hk ho => ct pc' ls mls st' S as H locs hk (fun _ _ => rfl) hW hS hL hls ho (Nat.le_refl _) (Nat.le_refl _)
  obtain ⟨tys, ws, hK, hP, hD, hHR, hAs⟩ := hW
  have goS : ∀ (pc' : Nat) (st' : List Value) (q k : Nat) (c0 c1 : pC) (e0 e1 : va_E) (H1 : Heap) (locs1 : List Loc), S.2.2 q = some c0 → (¬ ∃ k f, c0 = cT k f) → (¬ ∃ k f, c1 = cT k f) → ws[k]? = some (as q, e0) → rlE as S.1 tys c1 e1 → va_P D vwCl (ws.set k (as q, e1)) H1 → va_D A (ws.set k (as q, e1)) → va_S A s.heap H1 locs1 → K pc' ls st' (pSet S q c1) = some z → okL S.1 st' → W p l e R s m args below meth c H1 locs1 (S.1 - n0) (S.2.1 - sl0) Q (F0 m pc' mls (st'.map (rv as))) := by
    intro pc' st' q k c0 c1 e0 e1 H1 locs1 hq hc0 hc1 hk hrl hP1 hD1 hS1 hk1 ho
    exact ct pc' ls mls st' (pSet S q c1) as H1 locs1 hk1 (fun _ _ => rfl) ⟨tys, _, hK, hP1, hD1, HR_set (A := A) hHR hq hc0 hk hrl, AsE_set hAs hc1⟩ hS1 hL hls ho (Nat.le_refl _) (Nat.le_refl _)
  have goN : ∀ (pc' : Nat) (st' : List Value) (q sl : Nat) (c1 : pC) (e1 : va_E) (tys1 : List (ClassId × FieldType)) (H1 : Heap), S.1 < pSB → (¬ ∃ k f, c1 = cT k f) → (∀ y ∈ tys, y ∈ tys1) → va_K D vwCl tys1 s → rlE (asN as S.1 q) (S.1 + 1) tys1 c1 e1 → va_P D vwCl (ws ++ [(q, e1)]) H1 → va_D A (ws ++ [(q, e1)]) → va_S A s.heap H1 locs → K pc' ls (.ref S.1 :: st') (pNew S c1 sl) = some z → okL S.1 st' → W p l e R s m args below meth c H1 locs (S.1 + 1 - n0) (S.2.1 + sl - sl0) Q (F0 m pc' mls (.ref q :: st'.map (rv as))) := by
    intro pc' st' q sl c1 e1 tys1 H1 hn hc1 ht hK1 hrl hP1 hD1 hS1 hk1 ho
    have old := asN_old (as := as) (q := q) hn
    have h2 := ct pc' ls mls (.ref S.1 :: st') (pNew S c1 sl) (asN as S.1 q) H1 locs hk1 old ⟨tys1, _, hK1, hP1, hD1, HR_new hHR hn hD1 ht hrl, AsE_new hAs hc1 hn⟩ hS1 (hL.ext old hls) (okL_up (Nat.le_succ _) hls) (okL_c.mpr ⟨Or.inl (Nat.lt_succ_self _), okL_up (Nat.le_succ _) ho⟩) (Nat.le_succ _) (Nat.le_add_right _ _)
    rw [List.map_cons, okL_map ho old] at h2
    have e2 : rv (asN as S.1 q) (.ref S.1) = .ref q := congrArg Value.ref (asN_new as S.1 q)
    rw [e2] at h2
    exact h2
  have room : ∀ (pc' : Nat) (st' : List Value) (c1 : pC) (sl : Nat), K pc' ls st' (pNew S c1 sl) = some z → S.1 < pSB ∧ S.1 - n0 + 1 ≤ R.cells ∧ S.2.1 - sl0 + sl ≤ R.slots ∧ S.1 - n0 + 1 = S.1 + 1 - n0 ∧ S.2.1 - sl0 + sl = S.2.1 + sl - sl0 := by
    intro pc' st' c1 sl hk1
    have h1 := hge pc' ls st' (pNew S c1 sl) z.1 z.2 hk1
    have h2 : S.1 + 1 ≤ z.2.1 := h1.1
    have h3 : S.2.1 + sl ≤ z.2.2.1 := h1.2
    have h4 : pSB = 10000000 := rfl
    refine ⟨?_, ?_, ?_, ?_, ?_⟩ <;> omega
  cases i
  case getfield k =>
    simp only [ilen, Nat.beq_eq] at hlen
    simp only [okI, Bool.and_eq_true, Bool.or_eq_true, Nat.beq_eq, Nat.blt_eq, Nat.ble_eq, decide_eq_true_eq, beq_iff_eq] at hok
    subst hlen
    obtain ⟨⟨⟨hbN, ha⟩, hlnk⟩, hop2⟩ := hok
    obtain ⟨C0, T, N, ty, hcl, hws, hty, hnm, hdf, hdfl⟩ := clF a ha
    rw [fN_of hcl] at hbN
    have row : ∀ (q : Nat) (fs : List Value) (v : Value) (r : List Value), gO S q a = some fs → fs[b]? = some v → W p l e R s m args below meth c H locs (S.1 - n0) (S.2.1 - sl0) Q (F0 m (pc + 3) mls (rv as v :: r.map (rv as))) → W p l e R s m args below meth c H locs (S.1 - n0) (S.2.1 - sl0) Q (F0 m pc mls (.ref (as q) :: r.map (rv as))) := by
      intro q fs v r hg hv kk
      obtain ⟨-, ⟨k1, hk1⟩, -, -⟩ := HR_obj hHR hg
      have hv2 : (fs.map (rv as))[b]? = some (rv as v) := by rw [List.getElem?_map, hv]; rfl
      rcases hlnk with hlnk | ⟨⟨⟨h1, h2⟩, h3⟩, h4⟩
      · have hl2 := hts _ (FLt_ok hlnk)
        rw [fW_of hcl] at hl2
        exact va_get (D := D) hx hb hts hws hown hK hP k1 hk1 hcl b hbN hl2 (fun _ h9 => h9) hv2 hd kk
      · subst h2; subst h3; subst h4
        have hcl2 := hcl
        cases hcl2
        rw [h1] at hown
        exact va_getN (D := D) (host := "StillYear") hx hb hts hws hown hK hP k1 hk1 hcl 0 hbN (va_Nw.use rfl hE.2.2.2.2.2.1.2.1) (fun _ h9 => h9) hv2 hd kk
    rcases hop2 with (rfl | rfl) | rfl
    · (first | rw [pS_0] at h | rw [pS_1] at h | rw [pS_2] at h | rw [pS_3] at h | rw [pS_4] at h | rw [pS_5] at h | rw [pS_6] at h | rw [pS_7] at h | rw [pS_8] at h | rw [pS_9] at h | rw [pS_10] at h | rw [pS_11] at h | rw [pS_12] at h | rw [pS_13] at h | rw [pS_14] at h | rw [pS_15] at h | rw [pS_16] at h | rw [pS_17] at h | rw [pS_18] at h | rw [pS_19] at h | rw [pS_20] at h | rw [pS_21] at h | rw [pS_22] at h | rw [pS_23] at h | rw [pS_24] at h | rw [pS_25] at h | rw [pS_26] at h | rw [pS_27] at h | rw [pS_28] at h | rw [pS_29] at h | rw [pS_30] at h | rw [pS_31] at h | rw [pS_32] at h | rw [pS_33] at h | rw [pS_34] at h | rw [pS_35] at h | rw [pS_36] at h | rw [pS_37] at h | rw [pS_38] at h | rw [pS_39] at h | rw [pS_40] at h | rw [pS_41] at h | rw [pS_42] at h | rw [pS_43] at h | rw [pS_44] at h | rw [pS_45] at h | rw [pS_46] at h | rw [pS_47] at h | rw [pS_48] at h | rw [pS_49] at h | rw [pS_50] at h | rw [pS_51] at h | rw [pS_52] at h | rw [pS_53] at h | rw [pS_54] at h | rw [pS_55] at h | rw [pS_56] at h | rw [pS_57] at h | rw [pS_58] at h | rw [pS_59] at h | rw [pS_60] at h | rw [pS_61] at h | rw [pS_62] at h | rw [pS_63] at h | rw [pS_64] at h | rw [pS_65] at h | rw [pS_66] at h | rw [pS_67] at h)
      (have h0 := kA_i h); clear h; obtain ⟨q, r, rfl, h⟩ := h0
      obtain ⟨v, hv, h⟩ := bd_i h
      obtain ⟨fs, hg, hf⟩ := gFi_i hv
      exact row q fs _ r hg hf (go _ (.int v :: r) h (okL_c.mpr ⟨trivial, (okL_c.mp hst).2⟩))
    · (first | rw [pS_0] at h | rw [pS_1] at h | rw [pS_2] at h | rw [pS_3] at h | rw [pS_4] at h | rw [pS_5] at h | rw [pS_6] at h | rw [pS_7] at h | rw [pS_8] at h | rw [pS_9] at h | rw [pS_10] at h | rw [pS_11] at h | rw [pS_12] at h | rw [pS_13] at h | rw [pS_14] at h | rw [pS_15] at h | rw [pS_16] at h | rw [pS_17] at h | rw [pS_18] at h | rw [pS_19] at h | rw [pS_20] at h | rw [pS_21] at h | rw [pS_22] at h | rw [pS_23] at h | rw [pS_24] at h | rw [pS_25] at h | rw [pS_26] at h | rw [pS_27] at h | rw [pS_28] at h | rw [pS_29] at h | rw [pS_30] at h | rw [pS_31] at h | rw [pS_32] at h | rw [pS_33] at h | rw [pS_34] at h | rw [pS_35] at h | rw [pS_36] at h | rw [pS_37] at h | rw [pS_38] at h | rw [pS_39] at h | rw [pS_40] at h | rw [pS_41] at h | rw [pS_42] at h | rw [pS_43] at h | rw [pS_44] at h | rw [pS_45] at h | rw [pS_46] at h | rw [pS_47] at h | rw [pS_48] at h | rw [pS_49] at h | rw [pS_50] at h | rw [pS_51] at h | rw [pS_52] at h | rw [pS_53] at h | rw [pS_54] at h | rw [pS_55] at h | rw [pS_56] at h | rw [pS_57] at h | rw [pS_58] at h | rw [pS_59] at h | rw [pS_60] at h | rw [pS_61] at h | rw [pS_62] at h | rw [pS_63] at h | rw [pS_64] at h | rw [pS_65] at h | rw [pS_66] at h | rw [pS_67] at h)
      (have h0 := kA_i h); clear h; obtain ⟨q, r, rfl, h⟩ := h0
      obtain ⟨v, hv, h⟩ := bd_i h
      obtain ⟨fs, hg, hf⟩ := gFr_i hv
      have ho := okL_get (HR_obj hHR hg).2.2.1 hf
      exact row q fs _ r hg hf (go _ (.ref v :: r) h (okL_c.mpr ⟨ho, (okL_c.mp hst).2⟩))
    · (first | rw [pS_0] at h | rw [pS_1] at h | rw [pS_2] at h | rw [pS_3] at h | rw [pS_4] at h | rw [pS_5] at h | rw [pS_6] at h | rw [pS_7] at h | rw [pS_8] at h | rw [pS_9] at h | rw [pS_10] at h | rw [pS_11] at h | rw [pS_12] at h | rw [pS_13] at h | rw [pS_14] at h | rw [pS_15] at h | rw [pS_16] at h | rw [pS_17] at h | rw [pS_18] at h | rw [pS_19] at h | rw [pS_20] at h | rw [pS_21] at h | rw [pS_22] at h | rw [pS_23] at h | rw [pS_24] at h | rw [pS_25] at h | rw [pS_26] at h | rw [pS_27] at h | rw [pS_28] at h | rw [pS_29] at h | rw [pS_30] at h | rw [pS_31] at h | rw [pS_32] at h | rw [pS_33] at h | rw [pS_34] at h | rw [pS_35] at h | rw [pS_36] at h | rw [pS_37] at h | rw [pS_38] at h | rw [pS_39] at h | rw [pS_40] at h | rw [pS_41] at h | rw [pS_42] at h | rw [pS_43] at h | rw [pS_44] at h | rw [pS_45] at h | rw [pS_46] at h | rw [pS_47] at h | rw [pS_48] at h | rw [pS_49] at h | rw [pS_50] at h | rw [pS_51] at h | rw [pS_52] at h | rw [pS_53] at h | rw [pS_54] at h | rw [pS_55] at h | rw [pS_56] at h | rw [pS_57] at h | rw [pS_58] at h | rw [pS_59] at h | rw [pS_60] at h | rw [pS_61] at h | rw [pS_62] at h | rw [pS_63] at h | rw [pS_64] at h | rw [pS_65] at h | rw [pS_66] at h | rw [pS_67] at h)
      (have h0 := kA_i h); clear h; obtain ⟨q, r, rfl, h⟩ := h0
      obtain ⟨v, hv, h⟩ := bd_i h
      obtain ⟨fs, hg, hf⟩ := gFv_i hv
      have ho := okL_get (HR_obj hHR hg).2.2.1 hf
      refine row q fs _ r hg hf ?_
      rcases oN_i h with ⟨rfl, h⟩ | ⟨w, rfl, h⟩
      · exact go _ (.null :: r) h (okL_c.mpr ⟨trivial, (okL_c.mp hst).2⟩)
      · exact go _ (.ref w :: r) h (okL_c.mpr ⟨ho, (okL_c.mp hst).2⟩)
  case putfield k =>
    simp only [ilen, Nat.beq_eq] at hlen
    simp only [okI, Bool.and_eq_true, Bool.or_eq_true, Nat.beq_eq, Nat.blt_eq, Nat.ble_eq, decide_eq_true_eq, beq_iff_eq] at hok
    subst hlen
    obtain ⟨⟨⟨⟨hbN, ha⟩, hlnk⟩, htp⟩, hfin⟩ := hok
    obtain ⟨C0, T, N, ty, hcl, hws, hty, hnm, hdf, hdfl⟩ := clF a ha
    rw [fN_of hcl] at hbN
    rw [fTy_of hcl] at htp
    rw [fFin_of hcl, fDc_of hcl] at hfin
    have hl2 := hts _ (FLt_ok hlnk)
    rw [fW_of hcl] at hl2
    have row : ∀ (q : Nat) (v : Value) (r : List Value) (S1 : pS) (t : FieldType), parseFieldDescriptor (T b).2.2.1 = some t → narrow t (rv as v) = rv as v → fits t (rv as v) = true → okV S.1 v → okL S.1 r → pF S q a b v = some S1 → K (pc + 3) ls r S1 = some z → W p l e R s m args below meth c H locs (S.1 - n0) (S.2.1 - sl0) Q (F0 m pc mls (rv as v :: .ref (as q) :: r.map (rv as))) := by
      intro q v r S1 t ht hnr hft hov hor hpf hk
      obtain ⟨fs, hg, hbl, rfl⟩ := pF_i hpf
      obtain ⟨hcell, ⟨k1, hk1⟩, hof, -⟩ := HR_obj hHR hg
      have hset : (fs.map (rv as)).set b (rv as v) = (fs.set b v).map (rv as) := by rw [List.map_set]
      have kk : ∀ (H1 : Heap) (locs1 : List Loc), va_P D vwCl (ws.set k1 (as q, .inr (a, (fs.map (rv as)).set b (rv as v)))) H1 → va_D A (ws.set k1 (as q, .inr (a, (fs.map (rv as)).set b (rv as v)))) → va_S A s.heap H1 locs1 → W p l e R s m args below meth c H1 locs1 (S.1 - n0) (S.2.1 - sl0) Q (F0 m (pc + 3) mls (r.map (rv as))) := by
        intro H1 locs1 hP1 hD1 hS1
        rw [hset] at hP1 hD1
        exact goS _ r q k1 _ (cO a (fs.set b v)) _ _ H1 locs1 hcell (by rintro ⟨_, _, h⟩; cases h) (by rintro ⟨_, _, h⟩; cases h) hk1 ⟨rfl, okL_set hof hov⟩ hP1 hD1 hS1 hk hor
      have hlen2 : b < (fs.map (rv as)).length := by rw [List.length_map]; exact hbl
      rcases hfin with hfin | ⟨hk2, hdc⟩
      · have hfin2 : (T b).2.2.2 = false := by cases hq : (T b).2.2.2 with | false => rfl | true => rw [hq] at hfin; cases hfin
        exact va_put (D := D) hx hb hts hws ty hty hnm hown hK hP hD hS k1 hk1 hcl b hbN hl2 (fun _ h9 => h9) hfin2 ht hnr hft hlen2 hd kk
      · cases hq : (T b).2.2.2 with
        | false => exact va_put (D := D) hx hb hts hws ty hty hnm hown hK hP hD hS k1 hk1 hcl b hbN hl2 (fun _ h9 => h9) hq ht hnr hft hlen2 hd kk
        | true => exact va_putF (D := D) hx hb hts hws ty hty hnm hown hK hP hD hS k1 hk1 hcl b hbN hl2 (fun _ h9 => h9) hq (hin hk2) hdc ht hnr hft hlen2 hd kk
    rcases htp with ⟨rfl, htp⟩ | ⟨rfl, htp⟩
    · (first | rw [pS_0] at h | rw [pS_1] at h | rw [pS_2] at h | rw [pS_3] at h | rw [pS_4] at h | rw [pS_5] at h | rw [pS_6] at h | rw [pS_7] at h | rw [pS_8] at h | rw [pS_9] at h | rw [pS_10] at h | rw [pS_11] at h | rw [pS_12] at h | rw [pS_13] at h | rw [pS_14] at h | rw [pS_15] at h | rw [pS_16] at h | rw [pS_17] at h | rw [pS_18] at h | rw [pS_19] at h | rw [pS_20] at h | rw [pS_21] at h | rw [pS_22] at h | rw [pS_23] at h | rw [pS_24] at h | rw [pS_25] at h | rw [pS_26] at h | rw [pS_27] at h | rw [pS_28] at h | rw [pS_29] at h | rw [pS_30] at h | rw [pS_31] at h | rw [pS_32] at h | rw [pS_33] at h | rw [pS_34] at h | rw [pS_35] at h | rw [pS_36] at h | rw [pS_37] at h | rw [pS_38] at h | rw [pS_39] at h | rw [pS_40] at h | rw [pS_41] at h | rw [pS_42] at h | rw [pS_43] at h | rw [pS_44] at h | rw [pS_45] at h | rw [pS_46] at h | rw [pS_47] at h | rw [pS_48] at h | rw [pS_49] at h | rw [pS_50] at h | rw [pS_51] at h | rw [pS_52] at h | rw [pS_53] at h | rw [pS_54] at h | rw [pS_55] at h | rw [pS_56] at h | rw [pS_57] at h | rw [pS_58] at h | rw [pS_59] at h | rw [pS_60] at h | rw [pS_61] at h | rw [pS_62] at h | rw [pS_63] at h | rw [pS_64] at h | rw [pS_65] at h | rw [pS_66] at h | rw [pS_67] at h)
      (have h0 := kI_i h); clear h; obtain ⟨v, r0, rfl, h⟩ := h0
      (have h0 := kA_i h); clear h; obtain ⟨q, r, rfl, h⟩ := h0
      obtain ⟨S1, hpf, h⟩ := bd_i h
      exact row q (.int v) r S1 .int htp rfl rfl trivial (okL_c.mp (okL_c.mp hst).2).2 hpf h
    · (first | rw [pS_0] at h | rw [pS_1] at h | rw [pS_2] at h | rw [pS_3] at h | rw [pS_4] at h | rw [pS_5] at h | rw [pS_6] at h | rw [pS_7] at h | rw [pS_8] at h | rw [pS_9] at h | rw [pS_10] at h | rw [pS_11] at h | rw [pS_12] at h | rw [pS_13] at h | rw [pS_14] at h | rw [pS_15] at h | rw [pS_16] at h | rw [pS_17] at h | rw [pS_18] at h | rw [pS_19] at h | rw [pS_20] at h | rw [pS_21] at h | rw [pS_22] at h | rw [pS_23] at h | rw [pS_24] at h | rw [pS_25] at h | rw [pS_26] at h | rw [pS_27] at h | rw [pS_28] at h | rw [pS_29] at h | rw [pS_30] at h | rw [pS_31] at h | rw [pS_32] at h | rw [pS_33] at h | rw [pS_34] at h | rw [pS_35] at h | rw [pS_36] at h | rw [pS_37] at h | rw [pS_38] at h | rw [pS_39] at h | rw [pS_40] at h | rw [pS_41] at h | rw [pS_42] at h | rw [pS_43] at h | rw [pS_44] at h | rw [pS_45] at h | rw [pS_46] at h | rw [pS_47] at h | rw [pS_48] at h | rw [pS_49] at h | rw [pS_50] at h | rw [pS_51] at h | rw [pS_52] at h | rw [pS_53] at h | rw [pS_54] at h | rw [pS_55] at h | rw [pS_56] at h | rw [pS_57] at h | rw [pS_58] at h | rw [pS_59] at h | rw [pS_60] at h | rw [pS_61] at h | rw [pS_62] at h | rw [pS_63] at h | rw [pS_64] at h | rw [pS_65] at h | rw [pS_66] at h | rw [pS_67] at h)
      (have h0 := kAn_i h); clear h; obtain ⟨v, r0, rfl, h⟩ := h0
      (have h0 := kA_i h); clear h; obtain ⟨q, r, rfl, h⟩ := h0
      obtain ⟨S1, hpf, h⟩ := bd_i h
      cases ht : parseFieldDescriptor (T b).2.2.1 with
      | none => rw [ht] at htp; cases htp
      | some t =>
        rw [ht] at htp
        have hnf : narrow t (rv as (va_rf v)) = rv as (va_rf v) ∧ fits t (rv as (va_rf v)) = true := by
          cases t <;> first | (cases htp; done) | (cases v <;> exact ⟨rfl, rfl⟩)
        exact row q (va_rf v) r S1 t ht hnf.1 hnf.2 (okL_c.mp hst).1 (okL_c.mp (okL_c.mp hst).2).2 hpf h
  case iaload =>
    simp only [ilen, Nat.beq_eq] at hlen
    simp only [okI, Bool.and_eq_true, Bool.or_eq_true, Nat.beq_eq, Nat.blt_eq, Nat.ble_eq, decide_eq_true_eq, beq_iff_eq] at hok
    subst hok
    subst hlen
    (first | rw [pS_0] at h | rw [pS_1] at h | rw [pS_2] at h | rw [pS_3] at h | rw [pS_4] at h | rw [pS_5] at h | rw [pS_6] at h | rw [pS_7] at h | rw [pS_8] at h | rw [pS_9] at h | rw [pS_10] at h | rw [pS_11] at h | rw [pS_12] at h | rw [pS_13] at h | rw [pS_14] at h | rw [pS_15] at h | rw [pS_16] at h | rw [pS_17] at h | rw [pS_18] at h | rw [pS_19] at h | rw [pS_20] at h | rw [pS_21] at h | rw [pS_22] at h | rw [pS_23] at h | rw [pS_24] at h | rw [pS_25] at h | rw [pS_26] at h | rw [pS_27] at h | rw [pS_28] at h | rw [pS_29] at h | rw [pS_30] at h | rw [pS_31] at h | rw [pS_32] at h | rw [pS_33] at h | rw [pS_34] at h | rw [pS_35] at h | rw [pS_36] at h | rw [pS_37] at h | rw [pS_38] at h | rw [pS_39] at h | rw [pS_40] at h | rw [pS_41] at h | rw [pS_42] at h | rw [pS_43] at h | rw [pS_44] at h | rw [pS_45] at h | rw [pS_46] at h | rw [pS_47] at h | rw [pS_48] at h | rw [pS_49] at h | rw [pS_50] at h | rw [pS_51] at h | rw [pS_52] at h | rw [pS_53] at h | rw [pS_54] at h | rw [pS_55] at h | rw [pS_56] at h | rw [pS_57] at h | rw [pS_58] at h | rw [pS_59] at h | rw [pS_60] at h | rw [pS_61] at h | rw [pS_62] at h | rw [pS_63] at h | rw [pS_64] at h | rw [pS_65] at h | rw [pS_66] at h | rw [pS_67] at h)
    (have h0 := kIA_i h); clear h; obtain ⟨q, j, r, rfl, h⟩ := h0
    obtain ⟨v, hv, h⟩ := bd_i h
    obtain ⟨n, f, hc, hi, rfl⟩ := gI_i hv
    have hr2 := (okL_c.mp (okL_c.mp hst).2).2
    have h2 := go _ (.int _ :: r) h (okL_c.mpr ⟨trivial, hr2⟩)
    rcases hc with hc | hc
    · obtain ⟨k, t, cA, hk, ht⟩ := HR_int hHR hc
      exact va_iald hx hb hK hP k t hk ht hi hd h2
    · obtain ⟨rfl, rfl, rfl⟩ := hAs.2.2 q n f hc
      have e1 : rv as (.ref (pSB + 1000)) = .ref E.2.2.1 := congrArg Value.ref hAs.2.1
      obtain ⟨hX, hbl, hbA⟩ := hE.2.2.2.2.2.2.2
      rw [List.map_cons, List.map_cons, e1]
      exact va_sld hx hb hX hbl hbA hS hi hd h2
  case iastore =>
    simp only [ilen, Nat.beq_eq] at hlen
    simp only [okI, Bool.and_eq_true, Bool.or_eq_true, Nat.beq_eq, Nat.blt_eq, Nat.ble_eq, decide_eq_true_eq, beq_iff_eq] at hok
    subst hok
    subst hlen
    (first | rw [pS_0] at h | rw [pS_1] at h | rw [pS_2] at h | rw [pS_3] at h | rw [pS_4] at h | rw [pS_5] at h | rw [pS_6] at h | rw [pS_7] at h | rw [pS_8] at h | rw [pS_9] at h | rw [pS_10] at h | rw [pS_11] at h | rw [pS_12] at h | rw [pS_13] at h | rw [pS_14] at h | rw [pS_15] at h | rw [pS_16] at h | rw [pS_17] at h | rw [pS_18] at h | rw [pS_19] at h | rw [pS_20] at h | rw [pS_21] at h | rw [pS_22] at h | rw [pS_23] at h | rw [pS_24] at h | rw [pS_25] at h | rw [pS_26] at h | rw [pS_27] at h | rw [pS_28] at h | rw [pS_29] at h | rw [pS_30] at h | rw [pS_31] at h | rw [pS_32] at h | rw [pS_33] at h | rw [pS_34] at h | rw [pS_35] at h | rw [pS_36] at h | rw [pS_37] at h | rw [pS_38] at h | rw [pS_39] at h | rw [pS_40] at h | rw [pS_41] at h | rw [pS_42] at h | rw [pS_43] at h | rw [pS_44] at h | rw [pS_45] at h | rw [pS_46] at h | rw [pS_47] at h | rw [pS_48] at h | rw [pS_49] at h | rw [pS_50] at h | rw [pS_51] at h | rw [pS_52] at h | rw [pS_53] at h | rw [pS_54] at h | rw [pS_55] at h | rw [pS_56] at h | rw [pS_57] at h | rw [pS_58] at h | rw [pS_59] at h | rw [pS_60] at h | rw [pS_61] at h | rw [pS_62] at h | rw [pS_63] at h | rw [pS_64] at h | rw [pS_65] at h | rw [pS_66] at h | rw [pS_67] at h)
    (have h0 := kIIA_i h); clear h; obtain ⟨q, j, v, r, rfl, h⟩ := h0
    obtain ⟨S1, hv, h⟩ := bd_i h
    obtain ⟨n, f, hc, hi, rfl⟩ := pI_i hv
    have hr2 := (okL_c.mp (okL_c.mp (okL_c.mp hst).2).2).2
    obtain ⟨k, t, cA, hk, ht⟩ := HR_int hHR hc
    exact va_iast hx hb hK hP hD hS k t hk ht hi hd (fun H1 locs1 hP1 hD1 hS1 => goS _ r q k _ (cI n (upd f j.toNatClampNeg v)) _ _ H1 locs1 hc (by rintro ⟨_, _, h⟩; cases h) (by rintro ⟨_, _, h⟩; cases h) hk ⟨cA, List.mem_of_getElem? ht, rfl⟩ hP1 hD1 hS1 h hr2)
  case laload =>
    simp only [ilen, Nat.beq_eq] at hlen
    simp only [okI, Bool.and_eq_true, Bool.or_eq_true, Nat.beq_eq, Nat.blt_eq, Nat.ble_eq, decide_eq_true_eq, beq_iff_eq] at hok
    subst hok
    subst hlen
    (first | rw [pS_0] at h | rw [pS_1] at h | rw [pS_2] at h | rw [pS_3] at h | rw [pS_4] at h | rw [pS_5] at h | rw [pS_6] at h | rw [pS_7] at h | rw [pS_8] at h | rw [pS_9] at h | rw [pS_10] at h | rw [pS_11] at h | rw [pS_12] at h | rw [pS_13] at h | rw [pS_14] at h | rw [pS_15] at h | rw [pS_16] at h | rw [pS_17] at h | rw [pS_18] at h | rw [pS_19] at h | rw [pS_20] at h | rw [pS_21] at h | rw [pS_22] at h | rw [pS_23] at h | rw [pS_24] at h | rw [pS_25] at h | rw [pS_26] at h | rw [pS_27] at h | rw [pS_28] at h | rw [pS_29] at h | rw [pS_30] at h | rw [pS_31] at h | rw [pS_32] at h | rw [pS_33] at h | rw [pS_34] at h | rw [pS_35] at h | rw [pS_36] at h | rw [pS_37] at h | rw [pS_38] at h | rw [pS_39] at h | rw [pS_40] at h | rw [pS_41] at h | rw [pS_42] at h | rw [pS_43] at h | rw [pS_44] at h | rw [pS_45] at h | rw [pS_46] at h | rw [pS_47] at h | rw [pS_48] at h | rw [pS_49] at h | rw [pS_50] at h | rw [pS_51] at h | rw [pS_52] at h | rw [pS_53] at h | rw [pS_54] at h | rw [pS_55] at h | rw [pS_56] at h | rw [pS_57] at h | rw [pS_58] at h | rw [pS_59] at h | rw [pS_60] at h | rw [pS_61] at h | rw [pS_62] at h | rw [pS_63] at h | rw [pS_64] at h | rw [pS_65] at h | rw [pS_66] at h | rw [pS_67] at h)
    (have h0 := kIA_i h); clear h; obtain ⟨q, j, r, rfl, h⟩ := h0
    obtain ⟨v, hv, h⟩ := bd_i h
    obtain ⟨n, f, hc, hi, rfl⟩ := gL_i hv
    have hr2 := (okL_c.mp (okL_c.mp hst).2).2
    obtain ⟨k, t, cA, hk, ht⟩ := HR_long hHR hc
    exact va_lald hx hb hK hP k t hk ht hi hd (go _ (.long _ :: r) h (okL_c.mpr ⟨trivial, hr2⟩))
  case lastore =>
    simp only [ilen, Nat.beq_eq] at hlen
    simp only [okI, Bool.and_eq_true, Bool.or_eq_true, Nat.beq_eq, Nat.blt_eq, Nat.ble_eq, decide_eq_true_eq, beq_iff_eq] at hok
    subst hok
    subst hlen
    (first | rw [pS_0] at h | rw [pS_1] at h | rw [pS_2] at h | rw [pS_3] at h | rw [pS_4] at h | rw [pS_5] at h | rw [pS_6] at h | rw [pS_7] at h | rw [pS_8] at h | rw [pS_9] at h | rw [pS_10] at h | rw [pS_11] at h | rw [pS_12] at h | rw [pS_13] at h | rw [pS_14] at h | rw [pS_15] at h | rw [pS_16] at h | rw [pS_17] at h | rw [pS_18] at h | rw [pS_19] at h | rw [pS_20] at h | rw [pS_21] at h | rw [pS_22] at h | rw [pS_23] at h | rw [pS_24] at h | rw [pS_25] at h | rw [pS_26] at h | rw [pS_27] at h | rw [pS_28] at h | rw [pS_29] at h | rw [pS_30] at h | rw [pS_31] at h | rw [pS_32] at h | rw [pS_33] at h | rw [pS_34] at h | rw [pS_35] at h | rw [pS_36] at h | rw [pS_37] at h | rw [pS_38] at h | rw [pS_39] at h | rw [pS_40] at h | rw [pS_41] at h | rw [pS_42] at h | rw [pS_43] at h | rw [pS_44] at h | rw [pS_45] at h | rw [pS_46] at h | rw [pS_47] at h | rw [pS_48] at h | rw [pS_49] at h | rw [pS_50] at h | rw [pS_51] at h | rw [pS_52] at h | rw [pS_53] at h | rw [pS_54] at h | rw [pS_55] at h | rw [pS_56] at h | rw [pS_57] at h | rw [pS_58] at h | rw [pS_59] at h | rw [pS_60] at h | rw [pS_61] at h | rw [pS_62] at h | rw [pS_63] at h | rw [pS_64] at h | rw [pS_65] at h | rw [pS_66] at h | rw [pS_67] at h)
    (have h0 := kJIA_i h); clear h; obtain ⟨q, j, v, r, rfl, h⟩ := h0
    obtain ⟨S1, hv, h⟩ := bd_i h
    obtain ⟨n, f, hc, hi, rfl⟩ := pL_i hv
    have hr2 := (okL_c.mp (okL_c.mp (okL_c.mp hst).2).2).2
    obtain ⟨k, t, cA, hk, ht⟩ := HR_long hHR hc
    exact va_last hx hb hK hP hD hS k t hk ht hi hd (fun H1 locs1 hP1 hD1 hS1 => goS _ r q k _ (cL n (vp_updL f j.toNatClampNeg v)) _ _ H1 locs1 hc (by rintro ⟨_, _, h⟩; cases h) (by rintro ⟨_, _, h⟩; cases h) hk ⟨cA, List.mem_of_getElem? ht, rfl⟩ hP1 hD1 hS1 h hr2)
  case aaload =>
    simp only [ilen, Nat.beq_eq] at hlen
    simp only [okI, Bool.and_eq_true, Bool.or_eq_true, Nat.beq_eq, Nat.blt_eq, Nat.ble_eq, decide_eq_true_eq, beq_iff_eq] at hok
    subst hok
    subst hlen
    (first | rw [pS_0] at h | rw [pS_1] at h | rw [pS_2] at h | rw [pS_3] at h | rw [pS_4] at h | rw [pS_5] at h | rw [pS_6] at h | rw [pS_7] at h | rw [pS_8] at h | rw [pS_9] at h | rw [pS_10] at h | rw [pS_11] at h | rw [pS_12] at h | rw [pS_13] at h | rw [pS_14] at h | rw [pS_15] at h | rw [pS_16] at h | rw [pS_17] at h | rw [pS_18] at h | rw [pS_19] at h | rw [pS_20] at h | rw [pS_21] at h | rw [pS_22] at h | rw [pS_23] at h | rw [pS_24] at h | rw [pS_25] at h | rw [pS_26] at h | rw [pS_27] at h | rw [pS_28] at h | rw [pS_29] at h | rw [pS_30] at h | rw [pS_31] at h | rw [pS_32] at h | rw [pS_33] at h | rw [pS_34] at h | rw [pS_35] at h | rw [pS_36] at h | rw [pS_37] at h | rw [pS_38] at h | rw [pS_39] at h | rw [pS_40] at h | rw [pS_41] at h | rw [pS_42] at h | rw [pS_43] at h | rw [pS_44] at h | rw [pS_45] at h | rw [pS_46] at h | rw [pS_47] at h | rw [pS_48] at h | rw [pS_49] at h | rw [pS_50] at h | rw [pS_51] at h | rw [pS_52] at h | rw [pS_53] at h | rw [pS_54] at h | rw [pS_55] at h | rw [pS_56] at h | rw [pS_57] at h | rw [pS_58] at h | rw [pS_59] at h | rw [pS_60] at h | rw [pS_61] at h | rw [pS_62] at h | rw [pS_63] at h | rw [pS_64] at h | rw [pS_65] at h | rw [pS_66] at h | rw [pS_67] at h)
    (have h0 := kIA_i h); clear h; obtain ⟨q, j, r, rfl, h⟩ := h0
    obtain ⟨v, hv, h⟩ := bd_i h
    obtain ⟨n, f, hc, hi, rfl⟩ := gQ_i hv
    have hr2 := (okL_c.mp (okL_c.mp hst).2).2
    obtain ⟨⟨k, t, cA, hk, ht⟩, hof⟩ := HR_ref hHR hc
    refine va_aldq hx hb hK hP k t hk ht hi hd ?_
    have e1 : va_rf ((f j.toNatClampNeg).map as) = rv as (va_rf (f j.toNatClampNeg)) := (rv_rf as _).symm
    show W p l e R s m args below meth c H locs (S.1 - n0) (S.2.1 - sl0) Q (F0 m (pc + 1) mls (va_rf ((f j.toNatClampNeg).map as) :: r.map (rv as)))
    rw [e1]
    rcases oN_i h with ⟨e2, h⟩ | ⟨w, e2, h⟩
    · rw [e2]; exact go _ (.null :: r) h (okL_c.mpr ⟨trivial, hr2⟩)
    · rw [e2]; exact go _ (.ref w :: r) h (okL_c.mpr ⟨hof _ _ e2, hr2⟩)
  case aastore =>
    simp only [ilen, Nat.beq_eq] at hlen
    simp only [okI, Bool.and_eq_true, Bool.or_eq_true, Nat.beq_eq, Nat.blt_eq, Nat.ble_eq, decide_eq_true_eq, beq_iff_eq] at hok
    subst hok
    subst hlen
    (first | rw [pS_0] at h | rw [pS_1] at h | rw [pS_2] at h | rw [pS_3] at h | rw [pS_4] at h | rw [pS_5] at h | rw [pS_6] at h | rw [pS_7] at h | rw [pS_8] at h | rw [pS_9] at h | rw [pS_10] at h | rw [pS_11] at h | rw [pS_12] at h | rw [pS_13] at h | rw [pS_14] at h | rw [pS_15] at h | rw [pS_16] at h | rw [pS_17] at h | rw [pS_18] at h | rw [pS_19] at h | rw [pS_20] at h | rw [pS_21] at h | rw [pS_22] at h | rw [pS_23] at h | rw [pS_24] at h | rw [pS_25] at h | rw [pS_26] at h | rw [pS_27] at h | rw [pS_28] at h | rw [pS_29] at h | rw [pS_30] at h | rw [pS_31] at h | rw [pS_32] at h | rw [pS_33] at h | rw [pS_34] at h | rw [pS_35] at h | rw [pS_36] at h | rw [pS_37] at h | rw [pS_38] at h | rw [pS_39] at h | rw [pS_40] at h | rw [pS_41] at h | rw [pS_42] at h | rw [pS_43] at h | rw [pS_44] at h | rw [pS_45] at h | rw [pS_46] at h | rw [pS_47] at h | rw [pS_48] at h | rw [pS_49] at h | rw [pS_50] at h | rw [pS_51] at h | rw [pS_52] at h | rw [pS_53] at h | rw [pS_54] at h | rw [pS_55] at h | rw [pS_56] at h | rw [pS_57] at h | rw [pS_58] at h | rw [pS_59] at h | rw [pS_60] at h | rw [pS_61] at h | rw [pS_62] at h | rw [pS_63] at h | rw [pS_64] at h | rw [pS_65] at h | rw [pS_66] at h | rw [pS_67] at h)
    (have h0 := kAIA_i h); clear h; obtain ⟨q, j, v, r, rfl, h⟩ := h0
    obtain ⟨S1, hv, h⟩ := bd_i h
    obtain ⟨n, f, hc, hi, rfl, hvv⟩ := pQ_i hv
    have hr2 := (okL_c.mp (okL_c.mp (okL_c.mp hst).2).2).2
    obtain ⟨⟨k, t, cA, hk, ht⟩, hof⟩ := HR_ref hHR hc
    have hmap : ∀ v : Option Nat, (fun y => (va_up f j.toNatClampNeg v y).map as) = va_up (fun y => (f y).map as) j.toNatClampNeg (v.map as) := by
      intro v; funext y; unfold va_up; split <;> rfl
    have hov : ∀ y r, va_up f j.toNatClampNeg v y = some r → okR S.1 r := by
      intro y r hy
      unfold va_up at hy
      split at hy
      · subst hy; exact (okL_c.mp hst).1
      · exact hof _ _ hy
    rcases hvv with rfl | ⟨w, fs, rfl, hg⟩
    · refine va_astqN hx hb hK hP hD hS k t hk ht hi hd (fun H1 locs1 hP1 hD1 hS1 => ?_)
      exact goS _ r q k _ (cQ n (va_up f j.toNatClampNeg none)) _ _ H1 locs1 hc (by rintro ⟨_, _, h⟩; cases h) (by rintro ⟨_, _, h⟩; cases h) hk ⟨⟨cA, List.mem_of_getElem? ht, by rw [hmap]; rfl⟩, hov⟩ hP1 hD1 hS1 h hr2
    · obtain ⟨-, ⟨k2, hk2⟩, -, -⟩ := HR_obj hHR hg
      refine va_astq (r := (RX2, TX2, 3)) hx hb hK hP hD hS k t k2 2 hk ht hk2 rfl hi hd (fun H1 locs1 hP1 hD1 hS1 => ?_)
      exact goS _ r q k _ (cQ n (va_up f j.toNatClampNeg (some w))) _ _ H1 locs1 hc (by rintro ⟨_, _, h⟩; cases h) (by rintro ⟨_, _, h⟩; cases h) hk ⟨⟨cA, List.mem_of_getElem? ht, by rw [hmap]; rfl⟩, hov⟩ hP1 hD1 hS1 h hr2
  case arraylength =>
    simp only [ilen, Nat.beq_eq] at hlen
    simp only [okI, Bool.and_eq_true, Bool.or_eq_true, Nat.beq_eq, Nat.blt_eq, Nat.ble_eq, decide_eq_true_eq, beq_iff_eq] at hok
    subst hok
    subst hlen
    (first | rw [pS_0] at h | rw [pS_1] at h | rw [pS_2] at h | rw [pS_3] at h | rw [pS_4] at h | rw [pS_5] at h | rw [pS_6] at h | rw [pS_7] at h | rw [pS_8] at h | rw [pS_9] at h | rw [pS_10] at h | rw [pS_11] at h | rw [pS_12] at h | rw [pS_13] at h | rw [pS_14] at h | rw [pS_15] at h | rw [pS_16] at h | rw [pS_17] at h | rw [pS_18] at h | rw [pS_19] at h | rw [pS_20] at h | rw [pS_21] at h | rw [pS_22] at h | rw [pS_23] at h | rw [pS_24] at h | rw [pS_25] at h | rw [pS_26] at h | rw [pS_27] at h | rw [pS_28] at h | rw [pS_29] at h | rw [pS_30] at h | rw [pS_31] at h | rw [pS_32] at h | rw [pS_33] at h | rw [pS_34] at h | rw [pS_35] at h | rw [pS_36] at h | rw [pS_37] at h | rw [pS_38] at h | rw [pS_39] at h | rw [pS_40] at h | rw [pS_41] at h | rw [pS_42] at h | rw [pS_43] at h | rw [pS_44] at h | rw [pS_45] at h | rw [pS_46] at h | rw [pS_47] at h | rw [pS_48] at h | rw [pS_49] at h | rw [pS_50] at h | rw [pS_51] at h | rw [pS_52] at h | rw [pS_53] at h | rw [pS_54] at h | rw [pS_55] at h | rw [pS_56] at h | rw [pS_57] at h | rw [pS_58] at h | rw [pS_59] at h | rw [pS_60] at h | rw [pS_61] at h | rw [pS_62] at h | rw [pS_63] at h | rw [pS_64] at h | rw [pS_65] at h | rw [pS_66] at h | rw [pS_67] at h)
    (have h0 := kA_i h); clear h; obtain ⟨q, r, rfl, h⟩ := h0
    obtain ⟨v, hv, h⟩ := bd_i h
    have hr2 := (okL_c.mp hst).2
    have h2 := go _ (.int v :: r) h (okL_c.mpr ⟨trivial, hr2⟩)
    unfold gN at hv
    split at hv
    · next n f hc => cases hv; obtain ⟨k, t, cA, hk, ht⟩ := HR_int hHR hc; exact va_alen hx hb hK hP k t hk ht rfl hd h2
    · next n f hc => cases hv; obtain ⟨k, t, cA, hk, ht⟩ := HR_long hHR hc; exact va_alen hx hb hK hP k t hk ht rfl hd h2
    · next n f hc => cases hv; obtain ⟨⟨k, t, cA, hk, ht⟩, -⟩ := HR_ref hHR hc; exact va_alen hx hb hK hP k t hk ht rfl hd h2
    · next n f hc =>
      cases hv
      obtain ⟨rfl, rfl, rfl⟩ := hAs.2.2 q n f hc
      have e1 : rv as (.ref (pSB + 1000)) = .ref E.2.2.1 := congrArg Value.ref hAs.2.1
      obtain ⟨hX, hbl, hbA⟩ := hE.2.2.2.2.2.2.2
      rw [List.map_cons, e1]
      exact va_slen hx hb hX hbl hbA hS hd h2
    · cases hv
  case newarray at_ =>
    simp only [ilen, Nat.beq_eq] at hlen
    subst hlen
    cases at_ <;> first | (simp [okI] at hok; done) | skip
    · simp only [okI, Nat.beq_eq] at hok
      subst hok
      (first | rw [pS_0] at h | rw [pS_1] at h | rw [pS_2] at h | rw [pS_3] at h | rw [pS_4] at h | rw [pS_5] at h | rw [pS_6] at h | rw [pS_7] at h | rw [pS_8] at h | rw [pS_9] at h | rw [pS_10] at h | rw [pS_11] at h | rw [pS_12] at h | rw [pS_13] at h | rw [pS_14] at h | rw [pS_15] at h | rw [pS_16] at h | rw [pS_17] at h | rw [pS_18] at h | rw [pS_19] at h | rw [pS_20] at h | rw [pS_21] at h | rw [pS_22] at h | rw [pS_23] at h | rw [pS_24] at h | rw [pS_25] at h | rw [pS_26] at h | rw [pS_27] at h | rw [pS_28] at h | rw [pS_29] at h | rw [pS_30] at h | rw [pS_31] at h | rw [pS_32] at h | rw [pS_33] at h | rw [pS_34] at h | rw [pS_35] at h | rw [pS_36] at h | rw [pS_37] at h | rw [pS_38] at h | rw [pS_39] at h | rw [pS_40] at h | rw [pS_41] at h | rw [pS_42] at h | rw [pS_43] at h | rw [pS_44] at h | rw [pS_45] at h | rw [pS_46] at h | rw [pS_47] at h | rw [pS_48] at h | rw [pS_49] at h | rw [pS_50] at h | rw [pS_51] at h | rw [pS_52] at h | rw [pS_53] at h | rw [pS_54] at h | rw [pS_55] at h | rw [pS_56] at h | rw [pS_57] at h | rw [pS_58] at h | rw [pS_59] at h | rw [pS_60] at h | rw [pS_61] at h | rw [pS_62] at h | rw [pS_63] at h | rw [pS_64] at h | rw [pS_65] at h | rw [pS_66] at h | rw [pS_67] at h)
      (have h0 := kI_i h); clear h; obtain ⟨v, r, rfl, h⟩ := h0
      obtain ⟨hv, h⟩ := if_i h
      simp only [not_or, Nat.not_lt] at hv
      obtain ⟨hn, hc1, hs1, e1, e2⟩ := room _ _ _ _ h
      refine va_newa (D := D) (ty := .int) (a0 := (v.toNatClampNeg, .inl (fun _ => 0))) hx hb (hts _ arrI_in) rfl hK hP hD hS hA (fun _ => rfl) hv.1 rfl (by show v.toNatClampNeg * 4 ≤ _; omega) hc1 hs1 hd (fun q cA H1 hK1 hP1 hD1 hS1 => ?_)
      rw [e1, e2]
      exact goN _ r q _ (cI v.toNatClampNeg (fun _ => 0)) _ _ H1 hn (by rintro ⟨_, _, h⟩; cases h) (fun y hy => List.mem_append_left _ hy) hK1 ⟨cA, by simp, rfl⟩ hP1 hD1 hS1 h (okL_c.mp hst).2
    · simp only [okI, Nat.beq_eq] at hok
      subst hok
      (first | rw [pS_0] at h | rw [pS_1] at h | rw [pS_2] at h | rw [pS_3] at h | rw [pS_4] at h | rw [pS_5] at h | rw [pS_6] at h | rw [pS_7] at h | rw [pS_8] at h | rw [pS_9] at h | rw [pS_10] at h | rw [pS_11] at h | rw [pS_12] at h | rw [pS_13] at h | rw [pS_14] at h | rw [pS_15] at h | rw [pS_16] at h | rw [pS_17] at h | rw [pS_18] at h | rw [pS_19] at h | rw [pS_20] at h | rw [pS_21] at h | rw [pS_22] at h | rw [pS_23] at h | rw [pS_24] at h | rw [pS_25] at h | rw [pS_26] at h | rw [pS_27] at h | rw [pS_28] at h | rw [pS_29] at h | rw [pS_30] at h | rw [pS_31] at h | rw [pS_32] at h | rw [pS_33] at h | rw [pS_34] at h | rw [pS_35] at h | rw [pS_36] at h | rw [pS_37] at h | rw [pS_38] at h | rw [pS_39] at h | rw [pS_40] at h | rw [pS_41] at h | rw [pS_42] at h | rw [pS_43] at h | rw [pS_44] at h | rw [pS_45] at h | rw [pS_46] at h | rw [pS_47] at h | rw [pS_48] at h | rw [pS_49] at h | rw [pS_50] at h | rw [pS_51] at h | rw [pS_52] at h | rw [pS_53] at h | rw [pS_54] at h | rw [pS_55] at h | rw [pS_56] at h | rw [pS_57] at h | rw [pS_58] at h | rw [pS_59] at h | rw [pS_60] at h | rw [pS_61] at h | rw [pS_62] at h | rw [pS_63] at h | rw [pS_64] at h | rw [pS_65] at h | rw [pS_66] at h | rw [pS_67] at h)
      (have h0 := kI_i h); clear h; obtain ⟨v, r, rfl, h⟩ := h0
      obtain ⟨hv, h⟩ := if_i h
      simp only [not_or, Nat.not_lt] at hv
      obtain ⟨hn, hc1, hs1, e1, e2⟩ := room _ _ _ _ h
      refine va_newa (D := D) (ty := .long) (a0 := (v.toNatClampNeg, .inr (.inl (fun _ => 0)))) hx hb (hts _ arrJ_in) rfl hK hP hD hS hA (fun _ => rfl) hv.1 rfl (by show v.toNatClampNeg * 8 ≤ _; omega) hc1 hs1 hd (fun q cA H1 hK1 hP1 hD1 hS1 => ?_)
      rw [e1, e2]
      exact goN _ r q _ (cL v.toNatClampNeg (fun _ => 0)) _ _ H1 hn (by rintro ⟨_, _, h⟩; cases h) (fun y hy => List.mem_append_left _ hy) hK1 ⟨cA, by simp, rfl⟩ hP1 hD1 hS1 h (okL_c.mp hst).2
  case anewarray k =>
    simp only [ilen, Nat.beq_eq] at hlen
    simp only [okI, Bool.and_eq_true, Nat.beq_eq] at hok
    obtain ⟨rfl, hcl⟩ := hok
    subst hlen
    (first | rw [pS_0] at h | rw [pS_1] at h | rw [pS_2] at h | rw [pS_3] at h | rw [pS_4] at h | rw [pS_5] at h | rw [pS_6] at h | rw [pS_7] at h | rw [pS_8] at h | rw [pS_9] at h | rw [pS_10] at h | rw [pS_11] at h | rw [pS_12] at h | rw [pS_13] at h | rw [pS_14] at h | rw [pS_15] at h | rw [pS_16] at h | rw [pS_17] at h | rw [pS_18] at h | rw [pS_19] at h | rw [pS_20] at h | rw [pS_21] at h | rw [pS_22] at h | rw [pS_23] at h | rw [pS_24] at h | rw [pS_25] at h | rw [pS_26] at h | rw [pS_27] at h | rw [pS_28] at h | rw [pS_29] at h | rw [pS_30] at h | rw [pS_31] at h | rw [pS_32] at h | rw [pS_33] at h | rw [pS_34] at h | rw [pS_35] at h | rw [pS_36] at h | rw [pS_37] at h | rw [pS_38] at h | rw [pS_39] at h | rw [pS_40] at h | rw [pS_41] at h | rw [pS_42] at h | rw [pS_43] at h | rw [pS_44] at h | rw [pS_45] at h | rw [pS_46] at h | rw [pS_47] at h | rw [pS_48] at h | rw [pS_49] at h | rw [pS_50] at h | rw [pS_51] at h | rw [pS_52] at h | rw [pS_53] at h | rw [pS_54] at h | rw [pS_55] at h | rw [pS_56] at h | rw [pS_57] at h | rw [pS_58] at h | rw [pS_59] at h | rw [pS_60] at h | rw [pS_61] at h | rw [pS_62] at h | rw [pS_63] at h | rw [pS_64] at h | rw [pS_65] at h | rw [pS_66] at h | rw [pS_67] at h)
    (have h0 := kI_i h); clear h; obtain ⟨v, r, rfl, h⟩ := h0
    obtain ⟨hv, h⟩ := if_i h
    simp only [not_or, Nat.not_lt] at hv
    obtain ⟨hn, hc1, hs1, e1, e2⟩ := room _ _ _ _ h
    refine va_newq (D := D) (C := RX2) hx hb hown (hts _ (CL_ok _ (List.contains_iff_mem.mp hcl))) hE.2.2.2.2.2.1.2.2 hK hP hD hS hA hv.1 rfl (by omega) hc1 hs1 hd (fun q cA H1 hK1 hP1 hD1 hS1 => ?_)
    rw [e1, e2]
    exact goN _ r q _ (cQ v.toNatClampNeg (fun _ => none)) _ _ H1 hn (by rintro ⟨_, _, h⟩; cases h) (fun y hy => List.mem_append_left _ hy) hK1 ⟨⟨cA, by simp, rfl⟩, fun _ _ h => by cases h⟩ hP1 hD1 hS1 h (okL_c.mp hst).2
  case new k =>
    simp only [ilen, Nat.beq_eq] at hlen
    simp only [okI, Bool.and_eq_true, Bool.or_eq_true, Nat.beq_eq, Nat.blt_eq, decide_eq_true_eq] at hok
    subst hlen
    rcases hok with ⟨⟨⟨rfl, ha⟩, hbN⟩, hcl0⟩ | hok
    · (first | rw [pS_0] at h | rw [pS_1] at h | rw [pS_2] at h | rw [pS_3] at h | rw [pS_4] at h | rw [pS_5] at h | rw [pS_6] at h | rw [pS_7] at h | rw [pS_8] at h | rw [pS_9] at h | rw [pS_10] at h | rw [pS_11] at h | rw [pS_12] at h | rw [pS_13] at h | rw [pS_14] at h | rw [pS_15] at h | rw [pS_16] at h | rw [pS_17] at h | rw [pS_18] at h | rw [pS_19] at h | rw [pS_20] at h | rw [pS_21] at h | rw [pS_22] at h | rw [pS_23] at h | rw [pS_24] at h | rw [pS_25] at h | rw [pS_26] at h | rw [pS_27] at h | rw [pS_28] at h | rw [pS_29] at h | rw [pS_30] at h | rw [pS_31] at h | rw [pS_32] at h | rw [pS_33] at h | rw [pS_34] at h | rw [pS_35] at h | rw [pS_36] at h | rw [pS_37] at h | rw [pS_38] at h | rw [pS_39] at h | rw [pS_40] at h | rw [pS_41] at h | rw [pS_42] at h | rw [pS_43] at h | rw [pS_44] at h | rw [pS_45] at h | rw [pS_46] at h | rw [pS_47] at h | rw [pS_48] at h | rw [pS_49] at h | rw [pS_50] at h | rw [pS_51] at h | rw [pS_52] at h | rw [pS_53] at h | rw [pS_54] at h | rw [pS_55] at h | rw [pS_56] at h | rw [pS_57] at h | rw [pS_58] at h | rw [pS_59] at h | rw [pS_60] at h | rw [pS_61] at h | rw [pS_62] at h | rw [pS_63] at h | rw [pS_64] at h | rw [pS_65] at h | rw [pS_66] at h | rw [pS_67] at h)
      obtain ⟨C0, T, N, ty, hcl, hws, hty, hnm, hdf, hdfl⟩ := clF a ha
      rw [fN_of hcl] at hbN
      subst hbN
      obtain ⟨hn, hc1, hs1, e1, e2⟩ := room _ _ _ _ h
      have hl1 := hts _ (CL_ok _ (List.contains_iff_mem.mp hcl0))
      have hcn : clN a = C0 := by
        have : Nat.ble 100 a = false := by
          cases hq : Nat.ble 100 a with
          | false => rfl
          | true => have := Nat.le_of_ble_eq_true hq; omega
        simp [clN, this, hcl]
      have hl2 := hts _ (IN_ok a ha)
      have hl3 := hts _ (zW_in a ha)
      simp only [cW, hcn] at hl1
      simp only [iW, hcl] at hl2
      simp only [zW, hcn] at hl3
      refine va_new (D := D) (ci := a) hx hb hts hws ty hty hown hl1 hl2 hl3 hK hP hD hS hA hcl hdf hc1 hs1 hd (fun q H1 hP1 hD1 hS1 => ?_)
      rw [e1, e2]
      exact goN _ st q _ (cO a (pD0.getD a [])) _ tys H1 hn (by rintro ⟨_, _, h⟩; cases h) (fun y hy => hy) hK ⟨by rw [(dfl_i hdfl _ 0).1], (dfl_i hdfl as (S.1 + 1)).2⟩ hP1 hD1 hS1 h hst
    · omega
  case if_icmp cd zz => exfalso; cases cd <;> simp [okI, cdN] at hok <;> omega
  case ifCond cd zz => exfalso; cases cd <;> simp [okI, cdN] at hok <;> omega
  case ldc k => exfalso; simp only [okI, Bool.and_eq_true, Bool.or_eq_true, Nat.beq_eq] at hok; rcases hok with ⟨h9, -⟩ | ⟨h9, -⟩ <;> omega
  case ldc_w k => exfalso; simp only [okI, Bool.and_eq_true, Bool.or_eq_true, Nat.beq_eq] at hok; rcases hok with ⟨h9, -⟩ | ⟨h9, -⟩ <;> omega
  case invokevirtual k => exfalso; simp only [okI, Bool.and_eq_true, Bool.or_eq_true, Nat.beq_eq] at hok; rcases hok with (⟨h9, -⟩ | ⟨h9, -⟩) | ⟨h9, -⟩ <;> omega
  case invokestatic k => exfalso; simp only [okI, Bool.and_eq_true, Bool.or_eq_true, Nat.beq_eq] at hok; rcases hok with (((⟨h9, -⟩ | ⟨h9, -⟩) | ⟨h9, -⟩) | ⟨h9, -⟩) | ⟨h9, -⟩ <;> omega
  case invokespecial k => exfalso; simp only [okI, Bool.and_eq_true, Bool.or_eq_true, Nat.beq_eq] at hok; rcases hok with (⟨h9, -⟩ | ⟨h9, -⟩) | h9 <;> omega
  all_goals first | (simp [okI] at hok; done) | (exfalso; simp [okI] at hok; omega)
