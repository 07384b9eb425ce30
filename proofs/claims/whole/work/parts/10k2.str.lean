theorem s_kept {E : pEnv} {A : Nat → Prop} {s : State} {H : Heap} {locs : List Loc} {av : List Value} (hE : EF E A s s.heap) (hA : ∀ q, s.heap.size ≤ q → A q) (hS : va_S A s.heap H locs) : ∀ U : State, U.heap = H → s.WarmedH U.vm → va_Pc av (sP E H.size) av.toArray U := by
  intro U hU hW
  refine ⟨rfl, by rw [hU], ?_⟩
  rw [hU]
  exact (EF.warm hW (EF.kept hS.1 hS.2.1 hE)).narrow (fun q hq => hA q (Nat.le_trans hS.1 hq))
set_option maxHeartbeats 2000000 in
set_option maxRecDepth 20000 in
theorem stepE {l : Launch} {D : va_G} {E : pEnv} {M d : Nat} {p : Program} {e : Env} {R : Room} {s : State} {m : MethodId} {args : Array Value} {below : List Frame} {meth : Method} {c : Code} {A : Nat → Prop} {n0 sl0 : Nat} {Q : State → Prop} {C : Nat → List Value → pS → pR} {K : Nat → List Value → List Value → pS → pR} {out : pO} {S' : pS} {as : Nat → Nat} {S : pS} {pc len op : Nat} {x : Int} {a b : Nat} {i : Instr} {ls st : List Value} {H : Heap} {locs : List Loc} {mls : Array Slot}
    (cx : Cx M p s m args meth c) (hE : EF E A s s.heap) (hA : ∀ q, s.heap.size ≤ q → A q) (hW : Wd D E A as S s H) (hS : va_S A s.heap H locs) (hL : LV (mJ M) as mls (mxL M) ls) (hls : okL S.1 ls) (hst : okL S.1 st)
    (hge : ∀ pc ls st (S1 : pS), ge_ S1.1 S1.2.1 (K pc ls st S1)) (hfr : d + 10 ≤ R.frames) (hlo : 40 * d + 400 ≤ R.locals) (hRc : S'.1 - n0 ≤ R.cells) (hRs : S'.2.1 - sl0 ≤ R.slots)
    (hd : decode (mB M) pc = .ok (i, len)) (hlen : ilen i len = true) (hok : okI M pc op x a b i = true) (hop : op = 60 ∨ op = 61) (h : pStep C K M pc (len, op, x, a, b) ls st S = some (out, S')) (ct : Ct l D E M p e R s m args below meth c A n0 sl0 Q K (out, S') as S) :
    W p l e R s m args below meth c H locs (S.1 - n0) (S.2.1 - sl0) Q (F0 m pc mls (st.map (rv as))) := by
  obtain ⟨hx, hb, hr, hlk, hml, hown, hts, hin, htb⟩ := cx
  have go : ∀ (pc' : Nat) (st' : List Value), K pc' ls st' S = some (out, S') → okL S.1 st' → W p l e R s m args below meth c H locs (S.1 - n0) (S.2.1 - sl0) Q (F0 m pc' mls (st'.map (rv as))) := fun pc' st' hk ho => ct pc' ls mls st' S as H locs hk (fun _ _ => rfl) hW hS hL hls ho (Nat.le_refl _) (Nat.le_refl _)
  have room0 : ∀ (pc' : Nat) (st' : List Value), K pc' ls st' S = some (out, S') → S.1 - n0 + 0 ≤ R.cells ∧ S.2.1 - sl0 + 0 ≤ R.slots := by
    intro pc' st' hk
    have h1 := hge pc' ls st' S out S' hk
    have := h1.1
    have := h1.2
    omega
  obtain ⟨tys, ws, hK, hP, hD, hHR, hAs⟩ := hW
  have S0 : CallFix p m c (mB M) (mxL M) s args wT (oS (mO M)) := ⟨hx, hb, hml, hown, hts⟩
  have hEH : EF E A s H := EF.kept hS.1 hS.2.1 hE
  have hplen : pStr.length = 39 := by decide
  have good4 : ∀ (w1 w2 w3 w4 w5 : Cond), w1 ∈ wT → w2 ∈ wT → w3 ∈ wT → w4 ∈ wT → w5 ∈ wT → GoodIn wT (([w1, w2, w3, w4] : List Cond) ++ (w5 :: wT)) := by
    intro w1 w2 w3 w4 w5 h1 h2 h3 h4 h5 w hw
    rcases List.mem_append.mp hw with h | h
    · have hin : w ∈ wT := by
        simp only [List.mem_cons, List.not_mem_nil, or_false] at h
        rcases h with rfl | rfl | rfl | rfl <;> assumption
      exact ⟨hin, good_of_word (wT_good hin)⟩
    · exact wc_Good h5 w h
  have at_ : ∀ (q : Nat) (bs : List Int32), ¬ q < pSB → pStr[q - pSB]? = some bs → q - pSB < 39 ∧ as q = E.1 (q - pSB) ∧ pStr.getD (q - pSB) [] = bs := by
    intro q bs h1 h2
    have h3 : q - pSB < 39 := by rw [← hplen]; exact (List.getElem?_eq_some_iff.mp h2).1
    refine ⟨h3, ?_, by rw [List.getD_eq_getElem?_getD, h2]; rfl⟩
    have e1 : q = pSB + (q - pSB) := by omega
    have := hAs.1 (q - pSB) h3
    rw [← e1] at this
    exact this
  cases i
  case invokevirtual k =>
    simp only [ilen, Nat.beq_eq] at hlen
    subst hlen
    simp only [okI, Bool.and_eq_true, Bool.or_eq_true, Nat.beq_eq, beq_iff_eq] at hok
    rcases hok with (⟨h9, -⟩ | ⟨rfl, hlnk⟩) | ⟨rfl, hlnk⟩
    · omega
    · rw [pS_60] at h
      (have h0 := kA_i h); clear h; obtain ⟨q, r, rfl, h⟩ := h0
      obtain ⟨hwt, h⟩ := bf_i h
      obtain ⟨v, hv, h⟩ := bd_i h
      unfold sLen at hv
      split at hv
      · cases hv
      · next hq =>
        split at hv
        · next bs hbs =>
          cases hv
          obtain ⟨hi, hasq, hgd⟩ := at_ q bs hq hbs
          have hl1 : Cond.methodLink (oS (mO M)) k yJ0_length_8abf5 ∈ wT := lnkB hlnk
          have hG := good4 _ _ _ _ _ hl1 w_ilen w_slen w_zS w_len
          have hwt2 := stW_i (as := as) hwt
          have h2 := go _ _ h (okL_c.mpr ⟨trivial, (okL_c.mp hst).2⟩)
          have cw := cwV (R := R) (own := oS (mO M)) (index := k) (C := "java/lang/String") (rm := rmS 1) 0 hts hG rfl rfl rfl (by decide +kernel) ⟨by show 1 + 1 ≤ _; omega, by show 8 + (1 + 11) + 40 * 1 ≤ _; omega⟩
          have hrun := W.runV (H := H) (locs := locs) (cells := S.1 - n0) (slots := S.2.1 - sl0) (below := below) (meth := meth) (e := e) (As := []) (b := E.1 (q - pSB)) (g := F0 m pc mls ((Value.ref q :: r).map (rv as))) (rest := r.map (rv as)) S0 (m_len l E H.size hi) cw ⟨sP_blind, sRecv hEH hi, s_kept hE hA hS⟩ rfl rfl hL.1 (by show (Value.ref (as q) :: r.map (rv as)) = _; rw [hasq]; rfl) (by show 2 * 0 + _ ≤ 8; omega) hd (room0 _ _ h)
          rw [hgd] at hrun
          exact callH hrun h2
        · cases hv
    · rw [pS_61] at h
      (have h0 := kIA_i h); clear h; obtain ⟨q, j, r, rfl, h⟩ := h0
      obtain ⟨hwt, h⟩ := bf_i h
      obtain ⟨v, hv, h⟩ := bd_i h
      unfold sAt at hv
      split at hv
      · cases hv
      · next hq =>
        split at hv
        · next bs hbs =>
          split at hv
          · cases hv
          · next hj =>
            cases hv
            obtain ⟨hi, hasq, hgd⟩ := at_ q bs hq hbs
            have hl1 : Cond.methodLink (oS (mO M)) k yJ0_charAt_5068e ∈ wT := lnkB hlnk
            have hG := good4 _ _ _ _ _ hl1 w_ichr w_schr w_zS w_chr
            have hwt2 := stW_i (as := as) hwt
            have h2 := go _ _ h (okL_c.mpr ⟨trivial, (okL_c.mp (okL_c.mp hst).2).2⟩)
            have cw := cwV (R := R) (own := oS (mO M)) (index := k) (C := "java/lang/String") (rm := rmS 3) 1 hts hG rfl rfl rfl (by decide +kernel) ⟨by show 3 + 1 ≤ _; omega, by show 8 + (2 + 11) + 40 * 3 ≤ _; omega⟩
            have hrun := W.runV (H := H) (locs := locs) (cells := S.1 - n0) (slots := S.2.1 - sl0) (below := below) (meth := meth) (e := e) (As := [.int j]) (b := E.1 (q - pSB)) (g := F0 m pc mls ((Value.int j :: Value.ref q :: r).map (rv as))) (rest := r.map (rv as)) S0 (m_chr l E H.size hi j (by rw [hgd]; exact hj)) cw ⟨sP_blind, sRecv hEH hi, s_kept hE hA hS⟩ rfl rfl hL.1 (by show (Value.int j :: Value.ref (as q) :: r.map (rv as)) = _; rw [hasq]; rfl) (by show 2 * 0 + _ ≤ 8; omega) hd (room0 _ _ h)
            rw [hgd] at hrun
            exact callH hrun h2
        · cases hv
  case if_icmp cd zz => exfalso; rcases hop with rfl | rfl <;> cases cd <;> simp [okI, cdN] at hok
  case ifCond cd zz => exfalso; rcases hop with rfl | rfl <;> cases cd <;> simp [okI, cdN] at hok
  case newarray at_ => exfalso; rcases hop with rfl | rfl <;> cases at_ <;> simp [okI] at hok
  all_goals (exfalso; rcases hop with rfl | rfl <;> simp [okI] at hok <;> done)
