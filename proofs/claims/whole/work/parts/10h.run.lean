theorem clS : ∀ {c : Nat} {r : vw_C}, vwCl[c]? = some r → r.1 = oS c := by
  intro c r h
  match c, h with
  | 0, h => cases h; rfl
  | 1, h => cases h; rfl
  | 2, h => cases h; rfl
  | 3, h => cases h; rfl
  | 4, h => cases h; rfl
  | 5, h => cases h; rfl
  | 6, h => cases h; rfl
  | 7, h => cases h; rfl
  | 8, h => cases h; rfl
  | 9, h => cases h; rfl
  | 10, h => cases h; rfl
  | 11, h => cases h; rfl
  | n + 12, h => simp [vwCl] at h
theorem isO_i {S : pS} {q c : Nat} (h : isO S q c = true) : ∃ fs, S.2.2 q = some (cO c fs) := by
  unfold isO at h
  split at h
  · next k fs e =>
    have := Nat.eq_of_beq_eq_true h
    subst this
    exact ⟨fs, e⟩
  · cases h
theorem rcv_i {M : Nat} {as : List Value} {S : pS} (h : rcv M as S = true) : ∃ q as' fs, as = .ref q :: as' ∧ S.2.2 q = some (cO (mO M) fs) := by
  unfold rcv at h
  split at h
  · next q r => obtain ⟨fs, e⟩ := isO_i h; exact ⟨q, r, fs, rfl, e⟩
  · cases h
theorem lnk {M idx a : Nat} (h : lkT MLt (mO M) idx = some (a, 0)) (ha : a < 312) : Cond.methodLink (oS (mO M)) idx (mY a) ∈ wT := by
  have h1 := MLt_ok h
  have h2 : Nat.blt a 9000 = true := by
    have : Nat.ble (a + 1) 9000 = true := Nat.ble_eq_true_of_le (by omega)
    exact this
  have h3 : yOf a = mY a := by simp [yOf, h2]
  simpa [lW4, lW, h3] using h1
theorem cat_map (as : Nat → Nat) (r : List Value) : ((r.map (rv as)).map fun v => v.category).sum = (r.map fun v => v.category).sum := by
  rw [List.map_map]
  congr 1
  exact List.map_congr_left fun v _ => rv_cat as v
theorem stW_i {as : Nat → Nat} {r : List Value} (h : stW r = true) : ((r.map (rv as)).map fun v => v.category).sum ≤ 8 := by
  rw [cat_map]
  exact Nat.le_of_ble_eq_true h
theorem st_split (as : Nat → Nat) (st : List Value) (b : Nat) : st.map (rv as) = (((st.take b).reverse).map (rv as)).reverse ++ (st.drop b).map (rv as) := by
  rw [List.map_reverse, List.reverse_reverse, ← List.map_append, List.take_append_drop]
theorem PB_at {D : va_G} {E : pEnv} {A : Nat → Prop} {tys : List (ClassId × FieldType)} {ws : va_W} {s : State} {H : Heap} {locs : List Loc} {av : List Value} (hE : EF E A s s.heap) (hA : ∀ q, s.heap.size ≤ q → A q) (hK : va_K D vwCl tys s) (hP : va_P D vwCl ws H) (hD : va_D A ws) (hS : va_S A s.heap H locs) : ∀ U : State, U.heap = H → s.WarmedH U.vm → va_Pc av (PB D E tys ws H.size) av.toArray U := by
  intro U hU hW
  refine ⟨rfl, by rw [hU], va_K.moved hW.alike hK, by rw [hU]; exact hP, hD.weaken (fun _ _ _ _ => trivial), ?_⟩
  have h1 : EF E A s H := EF.kept hS.1 hS.2.1 hE
  have h2 := EF.warm hW h1
  rw [hU]
  exact h2.narrow (fun q hq => by
    rcases hq with ⟨k, e, h⟩ | h
    · exact hD.2 k _ h
    · exact hA q (Nat.le_trans hS.1 h))
theorem rmD_f (d mc ms : Nat) : (rmD d mc ms).frames = d + 10 := rfl
theorem rmD_l (d mc ms : Nat) : (rmD d mc ms).locals = 40 * d + 400 := rfl
def ivk (kind idx : Nat) : Instr := match kind with
  | 0 => .invokevirtual idx
  | 1 => .invokestatic idx
  | _ => .invokespecial idx
set_option maxRecDepth 20000 in
set_option maxHeartbeats 2000000 in
/-- a call of a method that returns -/
theorem run_ret {p : Program} {l : Launch} {e : Env} {R : Room} {s : State} {m : MethodId} {args : Array Value} {below : List Frame} {meth : Method} {c : Code} {H : Heap} {locs : List Loc} {cells slots : Nat} {D : va_G} {E : pEnv} {A : Nat → Prop} {as : Nat → Nat} {S : pS} {tys : List (ClassId × FieldType)} {ws : va_W} {mls : Array Slot} {ls st : List Value} {M kind idx a b pc d mc ms : Nat} {x : Int} {Qc : Array Value → State → Outcome → State → Prop} {free : Addr → Prop}
    (cx : Cx M p s m args meth c) (hE : EF E A s s.heap) (hA : ∀ q, s.heap.size ≤ q → A q) (hK : va_K D vwCl tys s) (hP : va_P D vwCl ws H) (hD : va_D A ws) (hS : va_S A s.heap H locs) (hHR : HR as S tys ws) (hL : LV (mJ M) as mls (mxL M) ls)
    (hC : okC M kind x a b idx = true) (hkind : kind ≤ 2) (hd : decode (mB M) pc = .ok (ivk kind idx, 3)) (hb : b ≤ st.length) (hw : stW (st.drop b) = true) (hrc : kind ≠ 1 → rcv a (st.take b).reverse S = true) (hfr : d + 1 + 10 ≤ R.frames) (hlo : 40 * (d + 1) + 400 ≤ R.locals) (hRc : cells + mc ≤ R.cells ∧ slots + ms ≤ R.slots)
    (hM : Met l (mY a) (mC a :: wT) (rmD d mc ms) (va_Pc (((st.take b).reverse).map (rv as)) (PB D E tys ws H.size)) Qc mc ms free) :
    va_Run p l e R s m args below meth c H locs cells slots mc ms (F0 m pc mls (st.map (rv as))) ((st.drop b).map (rv as)) (Qc (((st.take b).reverse).map (rv as)).toArray) free := by
  obtain ⟨hx, hbb, hr, hlk, hml, hown, hts, hin, htb⟩ := cx
  have S0 : CallFix p m c (mB M) (mxL M) s args wT (oS (mO M)) := ⟨hx, hbb, hml, hown, hts⟩
  have hav : ((st.take b).reverse).length = b := by rw [List.length_reverse, List.length_take]; omega
  simp only [okC, Bool.and_eq_true, Nat.blt_eq] at hC
  obtain ⟨⟨ha, hrt⟩, hC⟩ := hC
  have hPC := PB_at (av := ((st.take b).reverse).map (rv as)) hE hA hK hP hD hS
  have hroom : mxL a ≤ 12 → (rmD d mc ms).frames + 1 ≤ R.frames ∧ 8 + (mxL a + 11) + (rmD d mc ms).locals ≤ R.locals := fun h => ⟨by rw [rmD_f]; omega, by rw [rmD_l]; omega⟩
  have hwm : 2 * (F0 m pc mls (st.map (rv as))).monitorRoom + (((st.drop b).map (rv as)).map fun v => v.category).sum ≤ 8 := by
    show 2 * 0 + _ ≤ 8
    have := stW_i (as := as) hw
    omega
  have hcode : mK a ≠ 3 → mC a = .code (mY a) (mB a) (mxL a) (mT a) := by
    intro h3
    have : Nat.beq (mK a) 3 = false := by
      cases hq : Nat.beq (mK a) 3 with
      | false => rfl
      | true => exact absurd (Nat.eq_of_beq_eq_true hq) h3
    simp [mC, this]
  match kind, hkind with
  | 0, _ =>
    simp only [Bool.and_eq_true, Nat.beq_eq, decide_eq_true_eq, Nat.ble_eq, beq_iff_eq] at hC
    obtain ⟨⟨⟨hk, hn⟩, hb1⟩, hl⟩ := hC
    have hk4 : mK a ≠ 4 := by rw [hk]; decide
    obtain ⟨f1, f2, f3, f4, f5, f6, f7⟩ := mF ha hk4
    have hmw := mW_in ha hk4
    obtain ⟨q, av', fs, hav2, hq⟩ := rcv_i (hrc (by decide))
    obtain ⟨k1, e1, hk1, ⟨he1, -⟩, -⟩ := HR_at hHR hq (by rintro ⟨_, _, h⟩; cases h)
    subst he1
    have hcl : ∃ r, vwCl[mO a]? = some r := by
      obtain ⟨r, hr, -⟩ := hP k1 _ hk1
      exact ⟨r, hr⟩
    obtain ⟨r, hr⟩ := hcl
    have hrec := va_recv hK hP hr hk1
    rw [clS hr, f3] at hrec
    have hG : GoodIn wT (wsV (oS (mO M)) idx (mY a).cls (mY a) (mC a :: wT)) := by
      intro w hw2
      unfold wsV at hw2
      rcases List.mem_append.mp hw2 with h | h
      · have hin2 : w ∈ wT := by
          simp only [List.mem_cons, List.not_mem_nil, or_false] at h
          rcases h with rfl | rfl | rfl | rfl
          · exact lnk hl ha
          · exact hmw _ (by simp [mW, hk])
          · exact hmw _ (by simp [mW, hk])
          · exact hmw _ (by simp [mW, hk])
        exact ⟨hin2, good_of_word (wT_good hin2)⟩
      · exact mC_GoodIn ha hk4 w h
    have cw := cwV (R := R) (s := s) (args := args) (rm := rmD d mc ms) (b - 1) hts hG (by rw [hcode (by rw [hk]; decide)]) rfl rfl ⟨rfl, f2.1, f2.2, hn⟩ (hroom f6)
    rw [hav2] at hM hPC ⊢
    rw [List.map_cons] at hM hPC ⊢
    have hav3 : av'.length = b - 1 := by rw [hav2] at hav; simp at hav; omega
    refine va_runV S0 hM cw ⟨PB_blind, hrec, hPC⟩ rfl (by rw [List.length_map]; exact hav3) hL.1 ?_ hwm hd hRc
    show st.map (rv as) = _
    rw [st_split as st b, hav2, List.map_cons, List.reverse_cons, List.append_assoc]
    rfl
  | 1, _ =>
    simp only [Bool.and_eq_true, Bool.or_eq_true, Nat.beq_eq, decide_eq_true_eq, Nat.ble_eq, beq_iff_eq] at hC
    obtain ⟨⟨hk, hn⟩, hl⟩ := hC
    have hk4 : mK a ≠ 4 := by rcases hk with hk | hk <;> rw [hk] <;> decide
    obtain ⟨f1, f2, f3, f4, f5, f6, f7⟩ := mF ha hk4
    have hmw := mW_in ha hk4
    have hini : Cond.initialized (mY a).cls ∈ wT := hmw _ (by simp [mW])
    have hst : Cond.static (mY a) ∈ wT := hmw _ (by rcases hk with hk | hk <;> simp [mW, hk])
    have hstk : (F0 m pc mls (st.map (rv as))).stack = (((st.take b).reverse).map (rv as)).reverse ++ (st.drop b).map (rv as) := st_split as st b
    have hlen : (((st.take b).reverse).map (rv as)).length = b := by rw [List.length_map]; exact hav
    by_cases h3 : mK a = 3
    · rcases hl with hl | ⟨h1, -⟩
      · have hG : GoodIn wT (va_wsS (oS (mO M)) idx (mY a) (mC a :: wT)) := by
          intro w hw2
          unfold va_wsS at hw2
          rcases List.mem_append.mp hw2 with h | h
          · have hin2 : w ∈ wT := by
              simp only [List.mem_cons, List.not_mem_nil, or_false] at h
              rcases h with rfl | rfl | rfl
              · exact lnk hl ha
              · exact hst
              · exact hini
            exact ⟨hin2, good_of_word (wT_good hin2)⟩
          · exact mC_GoodIn ha hk4 w h
        have hcw : mC a = .codeWith (mY a) (mB a) (mxL a) (mT a) (mH a) := by simp [mC, h3]
        have cw := vx_cwSW (R := R) (s := s) (args := args) (rm := rmD d mc ms) b hts hG (by rw [hcw]) rfl rfl ⟨f2.1, f2.2, hn⟩ (hroom f6)
        exact vx_runSW S0 hM cw ⟨PB_blind, hPC⟩ rfl hlen hL.1 hstk hwm hd hRc
      · omega
    · rcases hl with hl | ⟨-, hl⟩
      · have cb := callB_of (R := R) (s := s) (args := args) (rm := rmD d mc ms) b hts (mC_GoodIn ha hk4) (by rw [hcode h3]) rfl rfl (hts _ hini) (hts _ (lnk hl ha)) ⟨f2.1, f2.2, hn⟩ (hroom f6)
        exact va_runS S0 hM ⟨cb, hts _ hst⟩ ⟨PB_blind, hPC⟩ rfl hlen hL.1 hstk hwm hd hRc
      · have hnw := hE.2.2.2.2.2.1.1 _ (List.contains_iff_mem.mp hl)
        have hyo : yOf a = mY a := by
          have : Nat.blt a 9000 = true := Nat.ble_eq_true_of_le (by omega)
          simp [yOf, this]
        have hnw2 : va_Nw (.methodLinkNest (oS (mO M)) idx (mY a) "StillYear") s := by simpa [nW, hyo] using hnw
        have cn := va_cnB (R := R) (s := s) (args := args) (rm := rmD d mc ms) b hts (mC_GoodIn ha hk4) (by rw [hcode h3]) rfl rfl hnw2 (hts _ hini) ⟨f2.1, f2.2, hn⟩ (hroom f6)
        exact va_runSN S0 hM ⟨cn, hts _ hst, trivial⟩ ⟨PB_blind, hPC⟩ rfl hlen hL.1 hstk hwm hd hRc
  | 2, _ =>
    simp only [Bool.and_eq_true, Bool.or_eq_true, Nat.beq_eq, decide_eq_true_eq, Nat.ble_eq, beq_iff_eq] at hC
    obtain ⟨⟨⟨hk, hn⟩, hb1⟩, hl⟩ := hC
    have hk4 : mK a ≠ 4 := by rw [hk]; decide
    obtain ⟨f1, f2, f3, f4, f5, f6, f7⟩ := mF ha hk4
    have hmw := mW_in ha hk4
    have hini : Cond.initialized (mY a).cls ∈ wT := hmw _ (by simp [mW])
    have hins : Cond.instanceMethod (mY a) ∈ wT := hmw _ (by simp [mW, hk])
    obtain ⟨q, av', fs, hav2, hq⟩ := rcv_i (hrc (by decide))
    have hav3 : av'.length = b - 1 := by rw [hav2] at hav; simp at hav; omega
    have hstk : (F0 m pc mls (st.map (rv as))).stack = (av'.map (rv as)).reverse ++ .ref (as q) :: (st.drop b).map (rv as) := by
      show st.map (rv as) = _
      rw [st_split as st b, hav2, List.map_cons, List.reverse_cons, List.append_assoc]
      rfl
    have hc0 : mC a = .code (mY a) (mB a) (mxL a) none := by rw [hcode (by rw [hk]; decide), f7 hk]
    rw [hav2] at hM hPC ⊢
    rw [List.map_cons] at hM hPC ⊢
    rcases hl with hl | hl
    · have cb := callB_of (R := R) (s := s) (args := args) (rm := rmD d mc ms) (b - 1) hts (mC_GoodIn ha hk4) (by rw [hc0]) rfl rfl (hts _ hini) (hts _ (lnk hl ha)) ⟨f2.1, f2.2, hn⟩ (hroom f6)
      exact va_runI S0 hM ⟨cb, f4 hk, hts _ hins⟩ ⟨PB_blind, hPC⟩ rfl (by rw [List.length_map]; exact hav3) hL.1 hstk hwm hd hRc
    · have hnw := hE.2.2.2.2.2.1.1 _ (List.contains_iff_mem.mp hl)
      have hyo : yOf a = mY a := by
        have : Nat.blt a 9000 = true := Nat.ble_eq_true_of_le (by omega)
        simp [yOf, this]
      have hnw2 : va_Nw (.methodLinkNest (oS (mO M)) idx (mY a) "StillYear") s := by simpa [nW, hyo] using hnw
      have cn := va_cnB (R := R) (s := s) (args := args) (rm := rmD d mc ms) (b - 1) hts (mC_GoodIn ha hk4) (by rw [hc0]) rfl rfl hnw2 (hts _ hini) ⟨f2.1, f2.2, hn⟩ (hroom f6)
      exact va_runIN S0 hM ⟨cn, f4 hk, hts _ hins⟩ ⟨PB_blind, hPC⟩ rfl (by rw [List.length_map]; exact hav3) hL.1 hstk hwm hd hRc
set_option maxRecDepth 20000 in
set_option maxHeartbeats 2000000 in
/-- a call of a method that throws -/
theorem run_thr {p : Program} {l : Launch} {e : Env} {R : Room} {s : State} {m : MethodId} {args : Array Value} {below : List Frame} {meth : Method} {c : Code} {H : Heap} {locs : List Loc} {cells slots : Nat} {D : va_G} {E : pEnv} {A : Nat → Prop} {as : Nat → Nat} {S : pS} {tys : List (ClassId × FieldType)} {ws : va_W} {mls : Array Slot} {ls st : List Value} {M idx a b pc d mc ms : Nat} {x : Int} {Qc : Array Value → State → Outcome → State → Prop} {XC : String → State → State → Prop} {free : Addr → Prop}
    (cx : Cx M p s m args meth c) (hE : EF E A s s.heap) (hA : ∀ q, s.heap.size ≤ q → A q) (hK : va_K D vwCl tys s) (hP : va_P D vwCl ws H) (hD : va_D A ws) (hS : va_S A s.heap H locs) (hHR : HR as S tys ws) (hL : LV (mJ M) as mls (mxL M) ls)
    (hC : okC M 0 x a b idx = true) (hd : decode (mB M) pc = .ok (.invokevirtual idx, 3)) (hb : b ≤ st.length) (hw : stW (st.drop b) = true) (hrc : rcv a (st.take b).reverse S = true) (hfr : d + 1 + 10 ≤ R.frames) (hlo : 40 * (d + 1) + 400 ≤ R.locals) (hRc : cells + mc ≤ R.cells ∧ slots + ms ≤ R.slots)
    (hM : vx_Met l (mY a) (mC a :: wT) (rmD d mc ms) (va_Pc (((st.take b).reverse).map (rv as)) (PB D E tys ws H.size)) Qc XC mc ms free) :
    vx_Run p l e R s m args below meth c H locs cells slots mc ms (F0 m pc mls (st.map (rv as))) ((st.drop b).map (rv as)) (Qc (((st.take b).reverse).map (rv as)).toArray) XC free := by
  obtain ⟨hx, hbb, hr, hlk, hml, hown, hts, hin, htb⟩ := cx
  have S0 : CallFix p m c (mB M) (mxL M) s args wT (oS (mO M)) := ⟨hx, hbb, hml, hown, hts⟩
  have hav : ((st.take b).reverse).length = b := by rw [List.length_reverse, List.length_take]; omega
  simp only [okC, Bool.and_eq_true, Nat.blt_eq, Nat.beq_eq, decide_eq_true_eq, Nat.ble_eq, beq_iff_eq] at hC
  obtain ⟨⟨ha, hrt⟩, ⟨⟨hk, hn⟩, hb1⟩, hl⟩ := hC
  have hPC := PB_at (av := ((st.take b).reverse).map (rv as)) hE hA hK hP hD hS
  have hroom : mxL a ≤ 12 → (rmD d mc ms).frames + 1 ≤ R.frames ∧ 8 + (mxL a + 11) + (rmD d mc ms).locals ≤ R.locals := fun h => ⟨by rw [rmD_f]; omega, by rw [rmD_l]; omega⟩
  have hwm : 2 * (F0 m pc mls (st.map (rv as))).monitorRoom + (((st.drop b).map (rv as)).map fun v => v.category).sum ≤ 8 := by
    show 2 * 0 + _ ≤ 8
    have := stW_i (as := as) hw
    omega
  have hk4 : mK a ≠ 4 := by rw [hk]; decide
  have hcode : mC a = .code (mY a) (mB a) (mxL a) (mT a) := by
    have : Nat.beq (mK a) 3 = false := by rw [hk]; rfl
    simp [mC, this]
  obtain ⟨f1, f2, f3, f4, f5, f6, f7⟩ := mF ha hk4
  have hmw := mW_in ha hk4
  obtain ⟨q, av', fs, hav2, hq⟩ := rcv_i hrc
  obtain ⟨k1, e1, hk1, ⟨he1, -⟩, -⟩ := HR_at hHR hq (by rintro ⟨_, _, h⟩; cases h)
  subst he1
  have hcl : ∃ r, vwCl[mO a]? = some r := by
    obtain ⟨r, hr, -⟩ := hP k1 _ hk1
    exact ⟨r, hr⟩
  obtain ⟨r, hr⟩ := hcl
  have hrec := va_recv hK hP hr hk1
  rw [clS hr, f3] at hrec
  have hG : GoodIn wT (wsV (oS (mO M)) idx (mY a).cls (mY a) (mC a :: wT)) := by
    intro w hw2
    unfold wsV at hw2
    rcases List.mem_append.mp hw2 with h | h
    · have hin2 : w ∈ wT := by
        simp only [List.mem_cons, List.not_mem_nil, or_false] at h
        rcases h with rfl | rfl | rfl | rfl
        · exact lnk hl ha
        · exact hmw _ (by simp [mW, hk])
        · exact hmw _ (by simp [mW, hk])
        · exact hmw _ (by simp [mW, hk])
      exact ⟨hin2, good_of_word (wT_good hin2)⟩
    · exact mC_GoodIn ha hk4 w h
  have cw := cwV (R := R) (s := s) (args := args) (rm := rmD d mc ms) (b - 1) hts hG (by rw [hcode]) rfl rfl ⟨rfl, f2.1, f2.2, hn⟩ (hroom f6)
  rw [hav2] at hM hPC ⊢
  rw [List.map_cons] at hM hPC ⊢
  have hav3 : av'.length = b - 1 := by rw [hav2] at hav; simp at hav; omega
  refine vx_runV S0 hM cw ⟨PB_blind, hrec, hPC⟩ rfl (by rw [List.length_map]; exact hav3) hL.1 ?_ hwm hd hRc
  show st.map (rv as) = _
  rw [st_split as st b, hav2, List.map_cons, List.reverse_cons, List.append_assoc]
  rfl
