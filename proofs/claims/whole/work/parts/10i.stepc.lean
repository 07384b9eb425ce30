theorem pCall_i {C : Nat → List Value → pS → pR} {K : Nat → List Value → List Value → pS → pR} {M pc len a b : Nat} {t : Int} {ls st : List Value} {s : pS} {z : pO × pS} {X : Nat → Nat → pS → pR} (h : pCall C K X M pc len t a b ls st s = some z) : b ≤ st.length ∧ stW (st.drop b) = true ∧ argOk a (st.take b).reverse = true ∧ ((∃ (v : Option Value) (S1 : pS), C a (st.take b).reverse s = some (.inl v, S1) ∧ K (pc + len) ls (v.toList ++ st.drop b) S1 = some z) ∨ ∃ (k i : Nat) (S1 : pS), C a (st.take b).reverse s = some (.inr (k, i), S1) ∧ X k i S1 = some z) := by
  unfold pCall at h
  obtain ⟨hg, h⟩ := bf_i h
  simp only [Bool.and_eq_true, Nat.ble_eq] at hg
  refine ⟨hg.1, hg.2.1, hg.2.2, ?_⟩
  split at h
  · unfold kC0 at h
    split at h
    · next S1 e => exact Or.inl ⟨none, S1, e, h⟩
    · next k i S1 e => exact Or.inr ⟨k, i, S1, e, h⟩
    · cases h
  · unfold kC1 at h
    split at h
    · next x S1 e => exact Or.inl ⟨some (.int x), S1, e, h⟩
    · next k i S1 e => exact Or.inr ⟨k, i, S1, e, h⟩
    · cases h
  · unfold kC2 at h
    split at h
    · next x S1 e => exact Or.inl ⟨some (.long x), S1, e, h⟩
    · next k i S1 e => exact Or.inr ⟨k, i, S1, e, h⟩
    · cases h
  · unfold kC3 at h
    split at h
    · next x S1 e => exact Or.inl ⟨some (.ref x), S1, e, h⟩
    · next k i S1 e => exact Or.inr ⟨k, i, S1, e, h⟩
    · cases h
/-- a thrown exception's place in the pure heap -/
theorem HR_ex {as : Nat → Nat} {S : pS} {tys : List (ClassId × FieldType)} {ws : va_W} {q : Nat} (h : HR as S tys ws) (hn : S.1 < pSB) : HR (asN as S.1 q) (pEx S) tys ws := by
  have old := asN_old (as := as) (q := q) hn
  have key : ∀ i, nsc (S.2.2 i) → asN as S.1 q i = as i := by
    intro i hi
    obtain ⟨x, hx, hx'⟩ := hi
    rcases h.1 i x hx with h1 | ⟨hin, -⟩
    · exact absurd h1 hx'
    · exact old i (Or.inl hin)
  refine ⟨fun i x hi => ?_, fun i j h3 h4 h5 => ?_⟩
  · rcases h.1 i x hi with h1 | ⟨hin, ex, hm, hx⟩
    · exact Or.inl h1
    · refine Or.inr ⟨Nat.lt_succ_of_lt hin, ex, ?_, rlE_up old (Nat.le_succ _) (fun _ h => h) hx⟩
      rw [old i (Or.inl hin)]
      exact hm
  · rw [key i h3, key j h4] at h5
    exact h.2 i j h3 h4 h5
theorem AsE_ex {E : pEnv} {as : Nat → Nat} {S : pS} {q : Nat} (h : AsE E as S) (hn : S.1 < pSB) : AsE E (asN as S.1 q) (pEx S) := by
  have old := asN_old (as := as) (q := q) hn
  exact ⟨fun i hi => by rw [old _ (Or.inr (Nat.le_add_right _ _))]; exact h.1 i hi, by rw [old _ (Or.inr (Nat.le_add_right _ _))]; exact h.2.1, h.2.2⟩
theorem Wd_mono {D : va_G} {E : pEnv} {A B : Nat → Prop} {as : Nat → Nat} {S : pS} {s t : State} {H : Heap} (hv : t.vm.Alike s.vm) (ht : t.heap = H) (hAB : ∀ q, A q → B q) (h : Wd D E A as S t t.heap) : Wd D E B as S s H := by
  obtain ⟨tys, ws, h1, h2, h3, h4, h5⟩ := h
  exact ⟨tys, ws, va_K.moved hv h1, by rw [← ht]; exact h2, h3.weaken (fun k q hk hq => hAB _ hq), h4, h5⟩
/-- the law's handlers: the exceptions by their numbers -/
def okH (M : Nat) : Bool := !Nat.beq (mK M) 3 || (Nat.beq (hnd M).length (mH M).length && ((hnd M).zip (mH M)).all fun q => Nat.beq q.1.1 q.2.1 && Nat.beq q.1.2.1 q.2.2.1 && Nat.beq q.1.2.2.1 q.2.2.2.1 && ((Nat.beq q.1.2.2.2 0 && Nat.beq q.2.2.2.2 13) || (Nat.beq q.1.2.2.2 1 && Nat.beq q.2.2.2.2 31)) && decide (oS (mO M) = "StillYearLaw"))
set_option maxRecDepth 100000 in
theorem okH_all : (List.range 312).all okH = true := by decide +kernel
def mHb (M : Nat) : Bool := (!Nat.beq (mK M) 3 || !(mH M).isEmpty) && (!Nat.beq (mK M) 4 || (hnd M).isEmpty)
set_option maxRecDepth 100000 in
theorem mHb_all : (List.range 312).all mHb = true := by decide +kernel
theorem mH_ne (M : Nat) (hM : M < 312) (h3 : mK M = 3) : mH M ≠ [] := by
  have h := List.all_eq_true.mp mHb_all M (List.mem_range.mpr hM)
  intro e
  simp [mHb, h3, e] at h
theorem hnd_law (M : Nat) (hM : M < 312) (h4 : mK M = 4) : hnd M = [] := by
  have h := List.all_eq_true.mp mHb_all M (List.mem_range.mpr hM)
  simp [mHb, h4] at h
  exact h.2
theorem clk0 : Cond.classLink "StillYearLaw" 13 (eC 0) ∈ wT := wT_in (99 + 453) (by decide +kernel) rfl
theorem clk1 : Cond.classLink "StillYearLaw" 31 (eC 1) ∈ wT := wT_in (99 + 923) (by decide +kernel) rfl
/-- caught by one of the rows -/
theorem hX_i {D : pR} {F : Nat → pR} {z : pO × pS} {pc k : Nat} : ∀ (hn hm : List (Nat × Nat × Nat × Nat)), hn.length = hm.length → (hn.zip hm).all (fun q => Nat.beq q.1.1 q.2.1 && Nat.beq q.1.2.1 q.2.2.1 && Nat.beq q.1.2.2.1 q.2.2.2.1 && ((Nat.beq q.1.2.2.2 0 && Nat.beq q.2.2.2.2 13) || (Nat.beq q.1.2.2.2 1 && Nat.beq q.2.2.2.2 31))) = true → D = none → hX hn pc k F D = some z → ∃ (pre suf : List (Nat × Nat × Nat × Nat)) (x : Nat × Nat × Nat × Nat), hm = pre ++ x :: suf ∧ (∀ y ∈ pre, (¬ (y.1 ≤ pc ∧ pc < y.2.1)) ∨ (y.2.2.2 = 13 ∧ k ≠ 0) ∨ (y.2.2.2 = 31 ∧ k ≠ 1)) ∧ (x.1 ≤ pc ∧ pc < x.2.1) ∧ ((x.2.2.2 = 13 ∧ k = 0) ∨ (x.2.2.2 = 31 ∧ k = 1)) ∧ F x.2.2.1 = some z := by
  intro hn
  induction hn with
  | nil => intro hm _ _ hD h; unfold hX at h; rw [hD] at h; cases h
  | cons a hn ih =>
    intro hm hl hz hD h
    cases hm with
    | nil => cases hl
    | cons b hm =>
      obtain ⟨a1, a2, a3, a4⟩ := a
      obtain ⟨b1, b2, b3, b4⟩ := b
      simp only [List.zip_cons_cons, List.all_cons, Bool.and_eq_true, Bool.or_eq_true, Nat.beq_eq] at hz
      obtain ⟨⟨⟨⟨e1, e2⟩, e3⟩, e4⟩, hz⟩ := hz
      subst e1; subst e2; subst e3
      have hz' : (hn.zip hm).all (fun q => Nat.beq q.1.1 q.2.1 && Nat.beq q.1.2.1 q.2.2.1 && Nat.beq q.1.2.2.1 q.2.2.2.1 && ((Nat.beq q.1.2.2.2 0 && Nat.beq q.2.2.2.2 13) || (Nat.beq q.1.2.2.2 1 && Nat.beq q.2.2.2.2 31))) = true := hz
      have next : ((¬ (a1 ≤ pc ∧ pc < a2)) ∨ (b4 = 13 ∧ k ≠ 0) ∨ (b4 = 31 ∧ k ≠ 1)) → hX hn pc k F D = some z → ∃ (pre suf : List (Nat × Nat × Nat × Nat)) (x : Nat × Nat × Nat × Nat), (a1, a2, a3, b4) :: hm = pre ++ x :: suf ∧ (∀ y ∈ pre, (¬ (y.1 ≤ pc ∧ pc < y.2.1)) ∨ (y.2.2.2 = 13 ∧ k ≠ 0) ∨ (y.2.2.2 = 31 ∧ k ≠ 1)) ∧ (x.1 ≤ pc ∧ pc < x.2.1) ∧ ((x.2.2.2 = 13 ∧ k = 0) ∨ (x.2.2.2 = 31 ∧ k = 1)) ∧ F x.2.2.1 = some z := by
        intro hp h
        obtain ⟨pre, suf, x, g1, g2, g3⟩ := ih hm (by simpa using hl) hz' hD h
        refine ⟨(a1, a2, a3, b4) :: pre, suf, x, by rw [g1]; rfl, fun y hy => ?_, g3⟩
        rcases List.mem_cons.mp hy with rfl | hy
        · exact hp
        · exact g2 y hy
      unfold hX at h
      cases hc : (Nat.ble a1 pc && Nat.blt pc a2) with
      | false =>
        rw [hc] at h
        refine next (Or.inl ?_) h
        rintro ⟨p1, p2⟩
        have q1 : Nat.ble a1 pc = true := Nat.ble_eq_true_of_le p1
        have q2 : Nat.blt pc a2 = true := Nat.ble_eq_true_of_le p2
        rw [q1, q2] at hc
        cases hc
      | true =>
        rw [hc] at h
        dsimp only [cond_true] at h
        simp only [Bool.and_eq_true, Nat.ble_eq, Nat.blt_eq] at hc
        by_cases hk : k = a4
        · rw [if_pos hk] at h
          refine ⟨[], hm, (a1, a2, a3, b4), rfl, (fun y hy => by cases hy), hc, ?_, h⟩
          rcases e4 with ⟨e4, e5⟩ | ⟨e4, e5⟩
          · exact Or.inl ⟨e5, hk.trans e4⟩
          · exact Or.inr ⟨e5, hk.trans e4⟩
        · rw [if_neg hk] at h
          refine next (Or.inr ?_) h
          rcases e4 with ⟨e4, e5⟩ | ⟨e4, e5⟩
          · exact Or.inl ⟨e5, fun e => hk (e.trans e4.symm)⟩
          · exact Or.inr ⟨e5, fun e => hk (e.trans e4.symm)⟩
set_option maxHeartbeats 4000000 in
set_option maxRecDepth 10000 in
/-- a call -/
theorem stepC {l : Launch} {D : va_G} {E : pEnv} {f : Nat} (ih : SND l D E f) {M d : Nat} {p : Program} {e : Env} {R : Room} {s : State} {m : MethodId} {args : Array Value} {below : List Frame} {meth : Method} {c : Code} {A : Nat → Prop} {n0 sl0 : Nat} {Q : State → Prop} {out : pO} {S' : pS} {as : Nat → Nat} {S : pS} {pc kind idx a b : Nat} {x : Int} {ls st : List Value} {H : Heap} {locs : List Loc} {mls : Array Slot}
    (hMM : M < 312) (cx : Cx M p s m args meth c) (hE : EF E A s s.heap) (hA : ∀ q, s.heap.size ≤ q → A q) (hW : Wd D E A as S s H) (hS : va_S A s.heap H locs) (hL : LV (mJ M) as mls (mxL M) ls) (hls : okL S.1 ls) (hst : okL S.1 st) (hn0 : n0 ≤ S.1) (hsl0 : sl0 ≤ S.2.1)
    (hz : S'.1 ≤ 601024) (hfr : d + 10 ≤ R.frames) (hlo : 40 * d + 400 ≤ R.locals) (hRc : S'.1 - n0 ≤ R.cells) (hRs : S'.2.1 - sl0 ≤ R.slots)
    (hC : okC M kind x a b idx = true) (hkind : kind ≤ 2) (hd : decode (mB M) pc = .ok (ivk kind idx, 3))
    (h : pCall (fun M' as s' => bif Nat.beq kind 1 || rcv M' as s' then cD (fun d' M' as s' => run f d' M' 0 (ent M' as) [] s') d M' as s' else none) (fun pc' ls' st' s' => run f d M pc' ls' st' s') (bif Nat.beq kind 0 then pX (fun pc' ls' st' s' => run f d M pc' ls' st' s') M pc ls else nX) M pc 3 x a b ls st S = some (out, S'))
    (ct : Ct l D E M p e R s m args below meth c A n0 sl0 Q (fun pc' ls' st' s' => run f d M pc' ls' st' s') (out, S') as S) (hfin : Fin_ l D E M p e R s m args below meth c A as S n0 sl0 out S' Q) :
    W p l e R s m args below meth c H locs (S.1 - n0) (S.2.1 - sl0) Q (F0 m pc mls (st.map (rv as))) := by
  obtain ⟨hbl, hwt, harg, hres⟩ := pCall_i h
  clear h
  obtain ⟨tys, ws, hK, hP, hD, hHR, hAs⟩ := hW
  have hav : okL S.1 (st.take b).reverse := okL_rev (okL_take hst)
  have haM : a < 312 := by
    simp only [okC, Bool.and_eq_true, Nat.blt_eq] at hC
    exact hC.1.1
  have hk4 : mK a ≠ 4 := by
    simp only [okC, Bool.and_eq_true] at hC
    obtain ⟨-, hC⟩ := hC
    match kind, hkind with
    | 0, _ => simp only [Bool.and_eq_true, Nat.beq_eq] at hC; omega
    | 1, _ => simp only [Bool.and_eq_true, Bool.or_eq_true, Nat.beq_eq] at hC; omega
    | 2, _ => simp only [Bool.and_eq_true, Nat.beq_eq] at hC; omega
  have hfree : ∀ q, va_A ws H.size q → A q := by
    intro q hq
    rcases hq with ⟨k, e, h⟩ | h
    · exact hD.2 k _ h
    · exact hA q (Nat.le_trans hS.1 h)
  rcases hres with ⟨v, S1, hc, hk⟩ | ⟨k, i, S1, hc, hk⟩
  · obtain ⟨hg, hc⟩ := bf_i hc
    cases d with
    | zero => cases hc
    | succ d =>
      have hc : run f d a 0 (ent a (st.take b).reverse) [] S = some (.inl v, S1) := hc
      have g1 := run_ge f d a 0 _ _ S _ _ hc
      have g2 := run_ge f (d + 1) M (pc + 3) _ _ S1 _ _ hk
      have hM := met_ret ih (tys := tys) (ws := ws) (sz := H.size) hc haM hk4 (Nat.le_trans g2.1 hz) hHR hAs hav harg
      have hrn := run_ret (cells := S.1 - n0) (slots := S.2.1 - sl0) (R := R) (p := p) (e := e) (below := below) (x := x) cx hE hA hK hP hD hS hHR hL hC hkind hd hbl hwt (fun hk1 => by
        simp only [Bool.or_eq_true, Nat.beq_eq] at hg
        rcases hg with hg | hg
        · exact absurd hg hk1
        · exact hg) (by omega) (by omega) ⟨by have := g1.1; have := g2.1; omega, by have := g1.2; have := g2.2; omega⟩ hM
      refine my_call hrn hS (A1 := va_A ws H.size) (fun q _ hq => hfree q hq) hfree (fun st v t hq => hq.2) (fun v' st₀ t H1 locs1 ht hwm hq hS1 => ?_)
      obtain ⟨⟨as1, ha, hv, hW1, ho⟩, -⟩ := hq
      cases hv
      have e1 : S.1 - n0 + (S1.1 - S.1) = S1.1 - n0 := by have := g1.1; omega
      have e2 : S.2.1 - sl0 + (S1.2.1 - S.2.1) = S1.2.1 - sl0 := by have := g1.2; omega
      rw [e1, e2]
      have hdr : okL S.1 (st.drop b) := okL_drop hst
      have h2 := ct (pc + 3) ls mls (v.toList ++ st.drop b) S1 as1 H1 locs1 hk ha (Wd_mono hwm.alike.symm ht hfree hW1) hS1 (hL.ext ha hls) (okL_up g1.1 hls) (by
        intro w hw
        rcases List.mem_append.mp hw with hw | hw
        · cases v with
          | none => cases hw
          | some y => simp at hw; subst hw; exact ho _ rfl
        · exact okV_up g1.1 (hdr w hw)) g1.1 g1.2
      rw [List.map_append, okL_map hdr ha] at h2
      have e3 : v.toList.map (rv as1) = (v.map (rv as1)).toList := by cases v <;> rfl
      rw [e3] at h2
      exact h2
  · obtain ⟨hg, hc⟩ := bf_i hc
    cases d with
    | zero => cases hc
    | succ d =>
      have hcr : run f d a 0 (ent a (st.take b).reverse) [] S = some (.inr (k, i), S1) := hc
      have g1 := run_ge f d a 0 _ _ S _ _ hcr
      match kind, hkind with
      | 1, _ => cases hk
      | 2, _ => cases hk
      | 0, _ =>
        have hk : pX (fun pc' ls' st' s' => run f (d + 1) M pc' ls' st' s') M pc ls k i S1 = some (out, S') := hk
        have hrc : rcv a (st.take b).reverse S = true := hg
        have g2 := ge_X (K := fun pc' ls' st' s' => run f (d + 1) M pc' ls' st' s') M pc ls (fun pc ls st s => run_ge f (d + 1) M pc ls st s) k i S1 _ _ hk
        have hka : mK a = 0 := by
          simp only [okC, Bool.and_eq_true, Nat.beq_eq] at hC
          exact hC.2.1.1.1
        have hM := met_thr ih (tys := tys) (ws := ws) (sz := H.size) hcr haM hk4 (by rw [hka]; decide) (Nat.le_trans g2.1 hz) hHR hAs hav harg
        have hrn := run_thr (cells := S.1 - n0) (slots := S.2.1 - sl0) (R := R) (p := p) (e := e) (below := below) (x := x) cx hE hA hK hP hD hS hHR hL hC hd hbl hwt hrc (by omega) (by omega) ⟨by have := g1.1; have := g2.1; omega, by have := g1.2; have := g2.2; omega⟩ hM
        refine my_callX hrn hS (A1 := va_A ws H.size) (fun q _ hq => hfree q hq) hfree (fun N st t hq => hq.2.2) (fun N ce q st₀ t H1 locs1 ht hwm hq hS1 hce hcv hcl => ?_)
        obtain ⟨rfl, ⟨as1, S0, e0, ei, hle, ha, hW1⟩, -⟩ := hq
        have e1 : S.1 - n0 + (S1.1 - S.1) = S1.1 - n0 := by have := g1.1; omega
        have e2 : S.2.1 - sl0 + (S1.2.1 - S.2.1) = S1.2.1 - sl0 := by have := g1.2; omega
        rw [e1, e2]
        have hW2 : Wd D E A as1 S0 s H1 := Wd_mono hwm.alike.symm ht hfree hW1
        have hdr : okL S.1 (st.drop b) := okL_drop hst
        by_cases h3 : mK M = 3
        · have hoh := List.all_eq_true.mp okH_all M (List.mem_range.mpr hMM)
          simp only [okH, h3, Bool.or_eq_true, Bool.not_eq_true', Bool.and_eq_true, Nat.beq_eq] at hoh
          rcases hoh with hoh | ⟨hl1, hl2⟩
          · cases hoh
          · have hown : oS (mO M) = "StillYearLaw" ∨ hnd M = [] := by
              cases hh : hnd M with
              | nil => exact Or.inr rfl
              | cons y ys =>
                cases hm2 : mH M with
                | nil => rw [hh, hm2] at hl1; cases hl1
                | cons w ws2 =>
                  rw [hh, hm2] at hl2
                  simp only [List.zip_cons_cons, List.all_cons, Bool.and_eq_true, decide_eq_true_eq] at hl2
                  exact Or.inl hl2.1.2
            have hl3 : ((hnd M).zip (mH M)).all (fun q => Nat.beq q.1.1 q.2.1 && Nat.beq q.1.2.1 q.2.2.1 && Nat.beq q.1.2.2.1 q.2.2.2.1 && ((Nat.beq q.1.2.2.2 0 && Nat.beq q.2.2.2.2 13) || (Nat.beq q.1.2.2.2 1 && Nat.beq q.2.2.2.2 31))) = true := by
              rw [List.all_eq_true] at hl2 ⊢
              intro q hq
              have := hl2 q hq
              simp only [Bool.and_eq_true] at this ⊢
              exact this.1
            have htb := cx.2.2.2.2.2.2.2.2 h3
            unfold pX at hk
            rcases hown with hown | hnil
            · have hne : hnd M ≠ [] := by
                intro hnil
                rw [hnil] at hl1
                have : mH M = [] := List.eq_nil_of_length_eq_zero hl1.symm
                exact absurd this (mH_ne M hMM h3)
              have hdn : (match hnd M with | [] => some (Sum.inr (k, i), S1) | _ => none : pR) = none := by
                cases hh : hnd M with
                | nil => exact absurd hh hne
                | cons y ys => rfl
              obtain ⟨pre, suf, x9, g3, g4, g5, g6, g7⟩ := hX_i (hnd M) (mH M) hl1 hl3 hdn hk
              have hts := cx.2.2.2.2.2.2.1
              have hown2 := cx.2.2.2.2.2.1
              rw [hown] at hown2
              have hS0 : S0.1 < pSB := by
                have h5 : S1.1 = S0.1 + 1 := by rw [e0]; rfl
                have h4 : pSB = 10000000 := rfl
                have := g2.1
                omega
              have hE2 := hE.2.2.2.2.2.2.1
              have hcast : ∀ k0, k0 < 2 → (Cond.castable (eC k0) (eC k0)).before args s = true := fun k0 hk0 => va_Nw.use rfl (hE2.1 k0 hk0)
              have hcat : ∃ nm, (Cond.classLink "StillYearLaw" x9.2.2.2 nm).before args s = true ∧ (Cond.castable (eC k) nm).before args s = true ∧ x9.2.2.2 ≠ 0 := by
                rcases g6 with ⟨g6, rfl⟩ | ⟨g6, rfl⟩
                · rw [g6]; exact ⟨eC 0, hts _ clk0, hcast 0 (by decide), by decide⟩
                · rw [g6]; exact ⟨eC 1, hts _ clk1, hcast 1 (by decide), by decide⟩
              have hk2 : k = 0 ∨ k = 1 := by rcases g6 with ⟨-, g6⟩ | ⟨-, g6⟩ <;> omega
              obtain ⟨nm, n1, n2, n3⟩ := hcat
              refine vx_catch (own := "StillYearLaw") (name := nm) (E := eC k) (ce := ce) hown2 (tableOf pre) ⟨x9.1, x9.2.1, x9.2.2.1, x9.2.2.2⟩ (tableOf suf) (by rw [htb, g3]; simp [tableOf]) ?_ ?_ n3 n1 n2 hce hcv hcl ?_
              · intro z9 hz9
                obtain ⟨y, hy, rfl⟩ := List.mem_map.mp hz9
                rcases g4 y hy with g4 | ⟨g4, hkk⟩ | ⟨g4, hkk⟩
                · left
                  cases hcv2 : covers ⟨y.1, y.2.1, y.2.2.1, y.2.2.2⟩ pc with
                  | false => rfl
                  | true => exact absurd (by simpa [covers] using hcv2) g4
                · right
                  refine ⟨by show y.2.2.2 ≠ 0; omega, eC 0, by show (Cond.classLink "StillYearLaw" y.2.2.2 (eC 0)).before args s = true; rw [g4]; exact hts _ clk0, ?_⟩
                  have : k = 1 := by omega
                  rw [this]; exact hE2.2.2
                · right
                  refine ⟨by show y.2.2.2 ≠ 0; omega, eC 1, by show (Cond.classLink "StillYearLaw" y.2.2.2 (eC 1)).before args s = true; rw [g4]; exact hts _ clk1, ?_⟩
                  have : k = 0 := by omega
                  rw [this]; exact hE2.2.1
              · simpa [covers] using g5
              · obtain ⟨tys2, ws2, q1, q2, q3, q4, q5⟩ := hW2
                have old := asN_old (as := as1) (q := q) hS0
                have g8 : S.1 ≤ S1.1 := g1.1
                have h9 := ct x9.2.2.1 ls mls [.ref i] S1 (asN as1 S0.1 q) H1 locs1 g7 (fun r hr => (old r (okR_up hle hr)).trans (ha r hr)) ⟨tys2, ws2, q1, q2, q3, by rw [e0]; exact HR_ex q4 hS0, by rw [e0]; exact AsE_ex q5 hS0⟩ hS1 (hL.ext (fun r hr => (old r (okR_up hle hr)).trans (ha r hr)) hls) (okL_up g8 hls) (okL_c.mpr ⟨Or.inl (by rw [e0, ei]; exact Nat.lt_succ_self _), okL_n⟩) g1.1 g1.2
                have e5 : [Value.ref i].map (rv (asN as1 S0.1 q)) = [.ref q] := by
                  rw [ei]
                  show [Value.ref (asN as1 S0.1 q S0.1)] = _
                  rw [asN_new]
                rw [e5] at h9
                exact h9
            · rw [hnil] at hl1
              exact absurd (List.eq_nil_of_length_eq_zero hl1.symm) (mH_ne M hMM h3)
        · have hnil : hnd M = [] := by
            by_cases h4 : mK M = 4
            · exact hnd_law M hMM h4
            · exact (mF hMM h4).2.2.2.2.1 h3
          have hk3 : some (Sum.inr (k, i), S1) = some (out, S') := by
            unfold pX at hk
            rw [hnil] at hk
            exact hk
          cases hk3
          obtain ⟨Qc, XC, rfl, htb, hx⟩ := hfin
          refine vx_out (fun x9 h9 => (htb x9 h9).elim) cx.2.2.2.1 hce hcv hcl (fun t' ht' hal => ?_) (fun z9 h9 => hS1.2.2 z9 h9) (Nat.le_refl _) (Nat.le_refl _)
          exact hx as1 S0 t' e0 ei hle ha (Wd_t hal ht' hW2) (hS1.F ht')

