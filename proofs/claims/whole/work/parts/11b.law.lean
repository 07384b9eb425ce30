def R_law : String := "StillYearLaw"
def lw_P (b : Addr) (xs : List Int32) (args : Array Value) (s : State) : Prop := args = #[.ref b] ∧ s.IntsAt b xs ∧ xs.length ≤ 4608 ∧ (Jvm.Cond.and given_1 narrow_1).before args s = true
def lw_Q (_ : Array Value) (s : State) (o : Outcome) (t : State) : Prop := o = .returned (some (.int 1)) ∧ Framed s o t [] 601024 7293034
def lw_Z (below : List Frame) (a : Array Value) (s : State) : State → Prop := fun t => ∃ o, t.status = .running ∧ Ended t below o ∧ lw_Q a s o t
/-- the law's own end, with 1 on the stack, nothing written that was there before, its room as the claim has it -/
theorem lw_ret {p : Program} {l : Launch} {e : Env} {s : State} {m : MethodId} {below : List Frame} {meth : Method} {c : Code} {b : Nat} (hx : p.tables.exec = Jvm.exec) (hb : c.code = code) (hr : meth.sig.returnType = ret) (hlocks : meth.locks = false) {pc : Nat} {H : Heap} {ls : Array Slot} (hdg : decode code pc = .ok (.ireturn, 1)) : W p l e room_1 s m #[Value.ref b] below meth c H [] 601024 7293034 (lw_Z below #[Value.ref b] s) (F0 m pc ls [.int 1]) := by
  intro T hT X
  obtain ⟨fs, hret, hrun, hended, hW, hframe⟩ := X.leave (v := some (.int 1)) (hlocks := hlocks) (fun h => by rw [hr] at h; cases h)
  have hmeth' : T.vm.method? m = some meth := X.method'
  refine ⟨T.setFrames fs, ?_, .returned (some (.int 1)), hrun, hended, rfl, ⟨_, rfl⟩, hW, hframe⟩
  jvm_step X.here [X.here.top, hx, hb, hdg, hmeth', hr, ret, narrow_b1]
  (try refine ⟨rfl, ?_⟩); (try refine ⟨rfl, ?_⟩)
  first | (intro acts; rw [hret _ acts rfl rfl rfl]) | rw [hret _ _ rfl rfl rfl]
  exact Steps.refl _
/-- what holds at the law's entry: the machine, the code, the tables' words (any of lw_tbl by 'hts w (by decide +kernel)'), the script of L ints xs at the cell b, what the Statement gives of the start (any of its parts by flat_of_before) -/
def lw_At (p : Program) (s : State) (m : MethodId) (meth : Method) (c : Code) (b L : Nat) (xs : Nat → Int32) : Prop :=
  p.tables.exec = Jvm.exec ∧ c.code = code ∧ meth.sig.returnType = ret ∧ c.maxLocals = 8 ∧ s.vm.findClass R_law = some m.cls ∧ (∀ w ∈ lw_tbl, w.before #[Value.ref b] s = true) ∧ va_X b L xs s s.heap ∧ b < s.heap.size ∧ meth.locks = false ∧ (Jvm.Cond.and given_1 narrow_1).before #[Value.ref b] s = true
def S0 (L : Nat) (xs : Nat → Int32) : pS := (0, 0, fun j => if j = pSB + 1000 then some (cT L xs) else none)
set_option maxHeartbeats 4000000 in
set_option maxRecDepth 20000 in
/-- FROM THE PURE RUN TO THE LAW'S END -/
theorem law_W {l : Launch} (hl : l.stackTraces = false) {p : Program} {e : Env} {s : State} {m : MethodId} {below : List Frame} {meth : Method} {c : Code} {b L : Nat} {xs : Nat → Int32} (C0 : lw_At p s m meth c b L xs) {S' : pS} (hp : den 200 m_L_main 0 (ent m_L_main [.ref (pSB + 1000)]) [] (S0 L xs) = some (.inl (some (.int 1)), S')) (h1 : S'.1 ≤ 601024) (h2 : S'.2.1 ≤ 7293034) : W p l e room_1 s m #[Value.ref b] below meth c s.heap [] 0 0 (lw_Z below #[Value.ref b] s) (entryFrame m ([Value.ref b] : List Value).toArray 8) := by
  obtain ⟨hx, hb, hr, hml, hown, hts, hX, hbl, hlocks, hgv⟩ := C0
  obtain ⟨adK, adV, hE⟩ := EF_start hts hX hbl hgv
  have hkn : ∀ k : Nat, ∃ q : ClassId × (Nat → Nat), ∀ r : vw_C, vwCl[k]? = some r → u_Kn s r.1 r.2.1 r.2.2 q.1 q.2 := by
    intro k
    by_cases hk : k < 12
    · obtain ⟨C, T, N, ty, hcl, hws, -⟩ := clF k hk
      have hi := hts _ (wT_tbl (IN_ok k hk))
      simp only [iW, hcl] at hi
      obtain ⟨c0, iS0, h0⟩ := u_known (C := C) (T := T) (N := N) (n := N) hts (fun w hw => wT_tbl (hws w hw)) hi
      exact ⟨(c0, iS0), fun r hr => by rw [hcl] at hr; cases hr; exact h0⟩
    · refine ⟨(m.cls, fun _ => 0), fun r hr => ?_⟩
      have : k < 12 := (List.getElem?_eq_some_iff.mp hr).1
      exact absurd this hk
  obtain ⟨ki, hki⟩ := Classical.axiomOfChoice hkn
  have hK : va_K (fun k => (ki k).1, fun k => (ki k).2) vwCl [] s := ⟨fun c q h => hki c q h, fun k q h => by simp at h⟩
  have hP : va_P (fun k => (ki k).1, fun k => (ki k).2) vwCl [] s.heap := fun k q h => by simp at h
  have hD : va_D (fun q : Nat => s.heap.size ≤ q) [] := ⟨fun i j p q h => by simp at h, fun k q h => by simp at h⟩
  obtain ⟨as, has⟩ : ∃ as : Nat → Nat, as = fun j => if j = pSB + 1000 then b else adK (j - pSB) := ⟨_, rfl⟩
  have hAs : AsE (adK, adV, b, L, xs) as (S0 L xs) := by
    refine ⟨fun i hi => ?_, ?_, fun i k f h => ?_⟩
    · rw [has]
      have e1 : ¬ pSB + i = pSB + 1000 := by omega
      have e2 : pSB + i - pSB = i := by omega
      simp only [e1, if_false, e2]
    · rw [has]; simp
    · by_cases hi : i = pSB + 1000
      · simp only [S0, hi, if_true, Option.some.injEq] at h
        cases h
        exact ⟨hi, rfl, rfl⟩
      · simp [S0, hi] at h
  have hHR : HR as (S0 L xs) [] [] := by
    refine ⟨fun i c h => ?_, fun i j h3 => ?_⟩
    · by_cases hi : i = pSB + 1000
      · simp only [S0, hi, if_true, Option.some.injEq] at h
        exact Or.inl ⟨L, xs, h.symm⟩
      · simp [S0, hi] at h
    · obtain ⟨c, hc, hn⟩ := h3
      by_cases hi : i = pSB + 1000
      · simp only [S0, hi, if_true, Option.some.injEq] at hc
        exact absurd ⟨L, xs, hc.symm⟩ hn
      · simp [S0, hi] at hc
  have hav : okL 0 [Value.ref (pSB + 1000)] := okL_c.mpr ⟨Or.inr (Nat.le_add_right _ _), okL_n⟩
  obtain ⟨mls, he, hL, hls⟩ := LV_entry (M := m_L_main) (as := as) hav (by decide +kernel)
  have e0 : [Value.ref (pSB + 1000)].map (rv as) = [Value.ref b] := by
    show [Value.ref (as (pSB + 1000))] = _
    rw [hAs.2.1]
  obtain ⟨f, hf⟩ := (den_iff _ _ _ _ _ _ _).mp hp
  have cx : Cx m_L_main p s m #[Value.ref b] meth c := ⟨hx, hb, hr, hlocks, hml, hown, fun w hw => hts w (wT_tbl hw), fun h => absurd h (by decide), fun h => absurd h (by decide)⟩
  have hfr : (200 : Nat) + 10 ≤ room_1.frames := by decide
  have hlo : 40 * 200 + 400 ≤ room_1.locals := by decide
  have key := snd_all hl (fun k => (ki k).1, fun k => (ki k).2) (adK, adV, b, L, xs) (fun M pc e hM h => pTb_ok hM h) f 200 m_L_main 0 (ent m_L_main [.ref (pSB + 1000)]) [] (S0 L xs) (.inl (some (.int 1))) S' hf h1 (by decide) p e room_1 s m #[Value.ref b] below meth c s.heap [] mls as (fun q : Nat => s.heap.size ≤ q) 0 0 (lw_Z below #[Value.ref b] s) cx hE (fun q h => h) ⟨[], [], hK, hP, hD, hHR, hAs⟩ va_S.rf hL hls okL_n (Nat.le_refl _) (Nat.le_refl _) hfr hlo (by show S'.1 - 0 ≤ 601024; omega) (by show S'.2.1 - 0 ≤ 7293034; omega) ?_
  · have he2 := he m
    rw [e0] at he2
    have e3 : mxL m_L_main = 8 := by decide +kernel
    rw [e3] at he2
    rw [he2]
    exact key
  · intro as' H' locs' mls' pc' ha hW hS ho hd ht
    refine va_forget (fun q hq => hS.2.2 q hq) ?_
    refine W.widen (k := 601024) (n := 7293034) (by omega) (by omega) ?_
    exact lw_ret hx hb hr hlocks hd
