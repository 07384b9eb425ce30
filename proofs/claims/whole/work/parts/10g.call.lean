theorem EF.same {E : pEnv} {A : Nat → Prop} {s U : State} {H : Heap} (hv : U.vm = s.vm) (h : EF E A s H) : EF E A U H := by
  obtain ⟨⟨h1, h2, h2b⟩, h3, h4, h5, h5b, ⟨h6, h7, h8⟩, ⟨h9, h10, h11⟩, h12, h13, h14⟩ := h
  have ha : s.vm.Alike U.vm := by rw [hv]; exact Vm.Alike.refl _
  refine ⟨⟨h1.moved ha, h2.moved ha, fun y hy => va_Nw.same rfl hv.symm (h2b y hy)⟩, fun i r hr => vk_R.same hv (h3 i r hr), fun i hi => ⟨va_O.moved ha (h4 i hi).1, va_OF.moved ha (h4 i hi).2.1, va_OF.moved ha (h4 i hi).2.2.1, va_T.moved ha (h4 i hi).2.2.2⟩, va_Z.moved ha h5, va_Zq.moved ha h5b, ⟨fun r hr => va_Nw.same rfl hv.symm (h6 r hr), va_Nw.same rfl hv.symm h7, va_AO.moved ha h8⟩, ⟨fun k hk => va_Nw.same rfl hv.symm (h9 k hk), va_Nc.mv ha h10, va_Nc.mv ha h11⟩, va_X.moved ha h12, h13, h14⟩
/-- what a method is given, and what it gives back -/
def PB (D : va_G) (E : pEnv) (tys : List (ClassId × FieldType)) (ws : va_W) (sz : Nat) (U : State) : Prop := U.heap.size = sz ∧ va_K D vwCl tys U ∧ va_P D vwCl ws U.heap ∧ va_D (fun _ => True) ws ∧ EF E (va_A ws sz) U U.heap
def QR (D : va_G) (E : pEnv) (as : Nat → Nat) (S S1 : pS) (v : Option Value) (ws : va_W) (sz : Nat) : Array Value → State → Outcome → State → Prop := fun _ st oc t =>
  (∃ as' : Nat → Nat, (∀ r, okR S.1 r → as' r = as r) ∧ oc = .returned (v.map (rv as')) ∧ Wd D E (va_A ws sz) as' S1 t t.heap ∧ (∀ w, v = some w → okV S1.1 w)) ∧ va_F (va_A ws sz) st t
def XR (D : va_G) (E : pEnv) (as : Nat → Nat) (S S' : pS) (k i : Nat) (ws : va_W) (sz : Nat) : String → State → State → Prop := fun N st t =>
  N = eC k ∧ (∃ (as' : Nat → Nat) (S1 : pS), S' = pEx S1 ∧ i = S1.1 ∧ S.1 ≤ S1.1 ∧ (∀ r, okR S.1 r → as' r = as r) ∧ Wd D E (va_A ws sz) as' S1 t t.heap) ∧ va_F (va_A ws sz) st t
theorem PB_blind {D : va_G} {E : pEnv} {tys : List (ClassId × FieldType)} {ws : va_W} {sz : Nat} {av : List Value} : FrameBlind (va_Pc av (PB D E tys ws sz)) := by
  intro a U g mk h
  obtain ⟨h1, h2, h3, h4, h5, h6⟩ := h
  exact ⟨h1, h2, va_K.moved (u := U) (U := U.calling g mk a) (Vm.Alike.refl U.vm) h3, h4, h5, EF.same (s := U) (U := U.calling g mk a) rfl h6⟩
/-- the room of a method at a depth -/
def rmD (d mc ms : Nat) : Room := { frames := d + 10, cells := mc, slots := ms, locals := 40 * d + 400 }
theorem Wd_t {D : va_G} {E : pEnv} {A : Nat → Prop} {as : Nat → Nat} {S : pS} {s t : State} {H : Heap} (hv : s.vm.Alike t.vm) (ht : t.heap = H) (h : Wd D E A as S s H) : Wd D E A as S t t.heap := by
  obtain ⟨tys, ws, h1, h2, h3, h4, h5⟩ := h
  exact ⟨tys, ws, va_K.moved hv h1, by rw [ht]; exact h2, h3, h4, h5⟩
theorem cx_of {l : Launch} {M : Nat} {rm : Room} (hM : M < 312) (hk : mK M ≠ 4) {p : Program} {e : Env} {s : State} {m : MethodId} {args : Array Value} {below : List Frame} {meth : Method} {c : Code} {s₁ : State} (B : BodyLoose p l (mY M) (headSpec (mC M :: wT) rm) (mB M) (mxL M) (mT M) e s m args below meth c s₁) (hml : c.maxLocals = mxL M) : Cx M p s m args meth c := by
  obtain ⟨h1, h2, h3, h4, h5, h6, h7⟩ := mF hM hk
  have hts := atoms_spec (ws := mC M :: wT) B.pre
  refine ⟨B.exec, B.bytes, B.returns, B.notSynchronized, hml, by rw [h3]; exact findClass_of_methodNamed B.named, fun w hw => hts w (List.mem_cons_of_mem _ hw), fun e => ?_, fun e => ?_⟩
  · rw [(name_of_methodNamed B.named B.method).1]
    exact h4 e
  · have hc : mC M = .codeWith (mY M) (mB M) (mxL M) (mT M) (mH M) := by simp [mC, e]
    exact vx_table (x := mY M) (y := mY M) B (by rw [← hc]; exact hts _ List.mem_cons_self)
set_option maxHeartbeats 1000000 in
theorem met_ret {l : Launch} {D : va_G} {E : pEnv} {f : Nat} (ih : SND l D E f) {M d : Nat} {v : Option Value} {S S1 : pS} {av : List Value} {as : Nat → Nat} {tys : List (ClassId × FieldType)} {ws : va_W} {sz : Nat} (hr : run f d M 0 (ent M av) [] S = some (.inl v, S1)) (hM : M < 312) (hk : mK M ≠ 4) (hn : S1.1 ≤ 601024) (hHR : HR as S tys ws) (hAs : AsE E as S) (hav : okL S.1 av) (harg : argOk M av = true) :
    Met l (mY M) (mC M :: wT) (rmD d (S1.1 - S.1) (S1.2.1 - S.2.1)) (va_Pc (av.map (rv as)) (PB D E tys ws sz)) (QR D E as S S1 v ws sz) (S1.1 - S.1) (S1.2.1 - S.2.1) (va_A ws sz) := by
  have body : ∀ p e s m args below meth c s₁, BodyLoose p l (mY M) (headSpec (mC M :: wT) (rmD d (S1.1 - S.1) (S1.2.1 - S.2.1))) (mB M) (mxL M) (mT M) e s m args below meth c s₁ → c.maxLocals = mxL M → va_Pc (av.map (rv as)) (PB D E tys ws sz) args s →
      W p l e (headSpec (mC M :: wT) (rmD d (S1.1 - S.1) (S1.2.1 - S.2.1))).room s m args below meth c s.heap [] 0 0 (MQ below (QR D E as S S1 v ws sz) args s (S1.1 - S.1) (S1.2.1 - S.2.1) (va_A ws sz)) (entryFrame m args (mxL M)) := by
    intro p e s m args below meth c s₁ B hml hv
    obtain ⟨rfl, hsz, hK, hP, hD0, hE⟩ := hv
    subst hsz
    obtain ⟨mls, he, hL, hls⟩ := LV_entry (M := M) (as := as) hav harg
    have cx := cx_of hM hk B hml
    have hD : va_D (va_A ws s.heap.size) ws := hD0.self
    have h := ih d M 0 (ent M av) [] S (.inl v) S1 hr hn hM p e (headSpec (mC M :: wT) (rmD d (S1.1 - S.1) (S1.2.1 - S.2.1))).room s m (av.map (rv as)).toArray below meth c s.heap [] mls as (va_A ws s.heap.size) S.1 S.2.1 (MQ below (QR D E as S S1 v ws s.heap.size) (av.map (rv as)).toArray s (S1.1 - S.1) (S1.2.1 - S.2.1) (va_A ws s.heap.size)) cx hE (fun q hq => Or.inr hq) ⟨tys, ws, hK, hP, hD, hHR, hAs⟩ va_S.rf hL hls okL_n (Nat.le_refl _) (Nat.le_refl _) (Nat.le_refl _) (Nat.le_refl _) (Nat.le_refl _) (Nat.le_refl _) ?_
    · rw [Nat.sub_self, Nat.sub_self] at h
      rw [he m]
      exact h
    · intro as' H' locs' mls' pc' ha hW hS ho hd ht
      obtain ⟨hx, hb, hrt, hlk, -, -, -, -, -⟩ := cx
      have hq : ∀ t : State, t.heap = H' → s.WarmedH t.vm → QR D E as S S1 v ws s.heap.size (av.map (rv as)).toArray s (.returned (v.map (rv as'))) t := fun t e1 hw => ⟨⟨as', ha, rfl, Wd_t hw.alike e1 hW, ho⟩, hS.F e1⟩
      cases v with
      | none => exact W.vret hx hb (hrt.trans ht) hq hS.2.2 hd hlk
      | some w =>
        cases w with
        | int y =>
          rcases ht with ht | ⟨ht, hy⟩
          · exact W.iret hx hb (hrt.trans ht) hq hS.2.2 hd hlk
          · exact W.zret hx hb (hrt.trans ht) (by show Value.int (y &&& 1) = .int y; rw [hy]) hq hS.2.2 hd hlk
        | long y => exact W.lret hx hb (hrt.trans ht) hq hS.2.2 hd hlk
        | ref y =>
          obtain ⟨t, ht, hrf⟩ := ht
          exact W.aret hx hb (hrt.trans ht) (by cases t <;> first | exact Or.inl ⟨_, rfl⟩ | exact Or.inr ⟨_, rfl⟩ | cases hrf) (Or.inr ⟨_, rfl⟩) hq hS.2.2 hd hlk
        | _ => exact ht.elim
  have hpl := (mF hM hk).1
  by_cases h3 : mK M = 3
  · have hc : mC M = .codeWith (mY M) (mB M) (mxL M) (mT M) (mH M) := by simp [mC, h3]
    exact my_ofWH hpl (by rw [hc]) body
  · have hc : mC M = .code (mY M) (mB M) (mxL M) (mT M) := by
      have : Nat.beq (mK M) 3 = false := by
        cases hq : Nat.beq (mK M) 3 with
        | false => rfl
        | true => exact absurd (Nat.eq_of_beq_eq_true hq) h3
      simp [mC, this]
    exact Met.ofW hpl (by rw [hc]) body
set_option maxHeartbeats 1000000 in
theorem met_thr {l : Launch} {D : va_G} {E : pEnv} {f : Nat} (ih : SND l D E f) {M d k i : Nat} {S S1 : pS} {av : List Value} {as : Nat → Nat} {tys : List (ClassId × FieldType)} {ws : va_W} {sz : Nat} (hr : run f d M 0 (ent M av) [] S = some (.inr (k, i), S1)) (hM : M < 312) (hk : mK M ≠ 4) (hk3 : mK M ≠ 3) (hn : S1.1 ≤ 601024) (hHR : HR as S tys ws) (hAs : AsE E as S) (hav : okL S.1 av) (harg : argOk M av = true) :
    vx_Met l (mY M) (mC M :: wT) (rmD d (S1.1 - S.1) (S1.2.1 - S.2.1)) (va_Pc (av.map (rv as)) (PB D E tys ws sz)) (fun _ _ _ _ => False) (XR D E as S S1 k i ws sz) (S1.1 - S.1) (S1.2.1 - S.2.1) (va_A ws sz) := by
  have hpl := (mF hM hk).1
  have hc : mC M = .code (mY M) (mB M) (mxL M) (mT M) := by
    have : Nat.beq (mK M) 3 = false := by
      cases hq : Nat.beq (mK M) 3 with
      | false => rfl
      | true => exact absurd (Nat.eq_of_beq_eq_true hq) hk3
    simp [mC, this]
  refine vx_ofW (cc := mB M) (maxL := mxL M) (ret := mT M) hpl (by rw [hc]) ?_
  intro p e s m args below meth c s₁ B hml htb hv
  obtain ⟨rfl, hsz, hK, hP, hD0, hE⟩ := hv
  subst hsz
  obtain ⟨mls, he, hL, hls⟩ := LV_entry (M := M) (as := as) hav harg
  have cx := cx_of hM hk B hml
  have hD : va_D (va_A ws s.heap.size) ws := hD0.self
  have h := ih d M 0 (ent M av) [] S (.inr (k, i)) S1 hr hn hM p e (headSpec (mC M :: wT) (rmD d (S1.1 - S.1) (S1.2.1 - S.2.1))).room s m (av.map (rv as)).toArray below meth c s.heap [] mls as (va_A ws s.heap.size) S.1 S.2.1 (vx_MQ below (fun _ _ _ _ => False) (XR D E as S S1 k i ws s.heap.size) (av.map (rv as)).toArray s (S1.1 - S.1) (S1.2.1 - S.2.1) (va_A ws s.heap.size)) cx hE (fun q hq => Or.inr hq) ⟨tys, ws, hK, hP, hD, hHR, hAs⟩ va_S.rf hL hls okL_n (Nat.le_refl _) (Nat.le_refl _) (Nat.le_refl _) (Nat.le_refl _) (Nat.le_refl _) (Nat.le_refl _) ?_
  · rw [Nat.sub_self, Nat.sub_self] at h
    rw [he m]
    exact h
  · exact ⟨_, _, rfl, htb, fun as' S2 t e1 e2 e3 ha hW hF => ⟨rfl, ⟨as', S2, e1, e2, e3, ha, hW⟩, hF⟩⟩
section
variable {p : Program} {l : Launch} {e : Env} {R : Room} {s : State} {m : MethodId} {args : Array Value} {below : List Frame} {meth : Method} {c : Code} {H : Heap} {locs : List Loc} {cells slots : Nat} {Q : State → Prop}
theorem my_call {pc : Nat} {ls : Array Slot} {st0 rest : List Value} {mc ms : Nat} {free : Addr → Prop} {A0 A1 : Nat → Prop} {H0 : Heap} {Qa : State → Outcome → State → Prop} (hr : va_Run p l e R s m args below meth c H locs cells slots mc ms (F0 m pc ls st0) rest Qa free) (hS : va_S A0 H0 H locs) (hA : ∀ q, q < H.size → A1 q → A0 q) (hf : ∀ q, free q → A0 q) (hF : ∀ st v t, Qa st (.returned v) t → va_F A1 st t)
    (kk : ∀ (v : Option Value) (st₀ t : State) (H1 : Heap) (locs1 : List Loc), t.heap = H1 → s.WarmedH t.vm → Qa st₀ (.returned v) t → va_S A0 H0 H1 locs1 → W p l e R s m args below meth c H1 locs1 (cells + mc) (slots + ms) Q (F0 m (pc + 3) ls (v.toList ++ rest))) : W p l e R s m args below meth c H locs cells slots Q (F0 m pc ls st0) := by
  intro T hT X
  obtain ⟨v, st₀, t, T', L, h0, X', hL, e1, e2, hq, st⟩ := hr T hT X
  obtain ⟨hz, hk⟩ := hF st₀ v t hq
  rw [h0] at hz hk
  obtain ⟨t2, a1, b1⟩ := kk v st₀ t T'.heap (locs ++ L) e1.symm (by rw [← e2]; exact X'.warmed) hq
    ⟨Nat.le_trans hS.1 (by rw [e1]; exact hz), fun q h1 h2 => by rw [e1, hk q (Nat.lt_of_lt_of_le h1 hS.1) (fun z => h2 (hA q (Nat.lt_of_lt_of_le h1 hS.1) z))]; exact hS.2.1 q h1 h2, fun q hq => by
      rcases List.mem_append.mp hq with h | h
      · exact hS.2.2 q h
      · exact hf _ (hL q h)⟩ T' rfl X'
  exact ⟨t2, st t2 a1, b1⟩
theorem my_callX {pc : Nat} {ls : Array Slot} {st0 rest : List Value} {mc ms : Nat} {free : Addr → Prop} {A0 A1 : Nat → Prop} {H0 : Heap} {XC : String → State → State → Prop} (hr : vx_Run p l e R s m args below meth c H locs cells slots mc ms (F0 m pc ls st0) rest (fun _ _ _ => False) XC free) (hS : va_S A0 H0 H locs) (hA : ∀ q, q < H.size → A1 q → A0 q) (hf : ∀ q, free q → A0 q) (hF : ∀ N st t, XC N st t → va_F A1 st t)
    (kk : ∀ (N : String) (ce : Cell) (q : Addr) (st₀ t : State) (H1 : Heap) (locs1 : List Loc), t.heap = H1 → s.WarmedH t.vm → XC N st₀ t → va_S A0 H0 H1 locs1 → H1[q]? = some ce → ce.vm = .none → s.vm.findClass N = some ce.cls → vx_W p l e R s m args below meth c H1 locs1 (cells + mc) (slots + ms) Q (F0 m pc ls rest) q) : W p l e R s m args below meth c H locs cells slots Q (F0 m pc ls st0) := by
  intro T hT X
  rcases hr T hT X with ⟨v, st₀, t, T', L, h0, X', hL, e1, e2, hq, st⟩ | ⟨q, st₀, t, T', L, N, ce, h0, X', hL, e1, e2, hq, hce, hcv, hcl, st⟩
  · exact hq.elim
  · obtain ⟨hz, hk⟩ := hF N st₀ t hq
    rw [h0] at hz hk
    obtain ⟨t2, a1, b1⟩ := kk N ce q st₀ t T'.heap (locs ++ L) e1.symm (by rw [← e2]; exact X'.warmed) hq
      ⟨Nat.le_trans hS.1 (by rw [e1]; exact hz), fun q h1 h2 => by rw [e1, hk q (Nat.lt_of_lt_of_le h1 hS.1) (fun z => h2 (hA q (Nat.lt_of_lt_of_le h1 hS.1) z))]; exact hS.2.1 q h1 h2, fun q hq => by
        rcases List.mem_append.mp hq with h | h
        · exact hS.2.2 q h
        · exact hf _ (hL q h)⟩ (by rw [e1]; exact hce) hcv hcl T' rfl X'
    exact ⟨t2, st.trans a1, b1⟩
end
