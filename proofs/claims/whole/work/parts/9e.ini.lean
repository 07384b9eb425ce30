/-! THE BEGINNING: both objects made -/
theorem nw_Tp (d : Nat) {N m : Nat} {cs : List pC} {H : pH} : vcall (d + 1) m_Tp_init [.ref (aL N m cs H).1] (pNew (aL N m cs H) (cO 8 [.null, .int 0, .int 0, .int 0, .int 0, .int 0, .int 0]) 7) = some (.inl none, aL N (m + 607) (cs ++ [cO 8 [.ref (N + cs.length + 1), .int 0, .int (-1), .int 0, .int 0, .int 0, .int 0], cI 600 (fun _ => 0)]) H) := by
  have e : ∀ (M mm : Nat) (H : pH), vcall (d + 1) m_Tp_init [.ref M] (aL M mm [cO 8 [.null, .int 0, .int 0, .int 0, .int 0, .int 0, .int 0]] H) = some (.inl none, aL M (mm + 600) [cO 8 [.ref (M + 1), .int 0, .int (-1), .int 0, .int 0, .int 0, .int 0], cI 600 (fun _ => 0)] H) := fun M mm H => by
    refine (aL_v (c := 8) (N := M) rfl).trans ((B_Tp_init_0 _ _ _).trans ?_)
    simp (disch := simp) only [aL_new, aL_F, aL_g, aL_1, obs, List.cons_append, List.nil_append, List.length_cons, List.length_nil, Nat.zero_add, Nat.reduceAdd, List.set_cons_zero, List.set_cons_succ, Nat.add_zero, Nat.add_assoc]
  rw [aL_0, aL_1]
  refine (e _ _ _).trans ?_
  show some (Sum.inl none, aL (N + cs.length) (m + 7 + 600) _ (aL N m cs H).2.2) = _
  rw [aL_aL]
theorem nw_Pl (d : Nat) {N m : Nat} {cs : List pC} {H : pH} : vcall (d + 1) m_Pl_init [.ref (aL N m cs H).1] (pNew (aL N m cs H) (cO 4 [.null, .null, .int 0, .int 0]) 4) = some (.inl none, aL N (m + 308) (cs ++ [cO 4 [.ref (N + cs.length + 1), .ref (N + cs.length + 2), .int 0, .int 0], cI 48 (fun _ => 0), cI 256 (fun _ => 0)]) H) := by
  have e : ∀ (M mm : Nat) (H : pH), vcall (d + 1) m_Pl_init [.ref M] (aL M mm [cO 4 [.null, .null, .int 0, .int 0]] H) = some (.inl none, aL M (mm + 304) [cO 4 [.ref (M + 1), .ref (M + 2), .int 0, .int 0], cI 48 (fun _ => 0), cI 256 (fun _ => 0)] H) := fun M mm H => by
    refine (aL_v (c := 4) (N := M) rfl).trans ((B_Pl_init_0 _ _ _).trans ?_)
    simp (disch := simp) only [aL_new, aL_F, aL_g, aL_1, obs, List.cons_append, List.nil_append, List.length_cons, List.length_nil, Nat.zero_add, Nat.reduceAdd, List.set_cons_zero, List.set_cons_succ, Nat.add_zero, Nat.add_assoc]
  rw [aL_0, aL_1]
  refine (e _ _ _).trans ?_
  show some (Sum.inl none, aL (N + cs.length) (m + 4 + 304) _ (aL N m cs H).2.2) = _
  rw [aL_aL]
/-- a studio's numbers at its beginning -/
def su0 : rT := wF (wF ((fun _ => 0), fun _ _ => 0) 47 365) 48 20
theorem nw_Su (d : Nat) {N m : Nat} {cs : List pC} {H : pH} : vcall (d + 1) m_Su_init [.ref (aL N m cs H).1] (pNew (aL N m cs H) (cO 7 [.null, .null, .null, .null, .int 0, .int 0, .int 0, .int 0, .int 0]) 9) = some (.inl none, aL N (m + 37) (cs ++ suL (N + cs.length) su0) H) := by
  have e : ∀ (M mm : Nat) (H : pH), vcall (d + 1) m_Su_init [.ref M] (aL M mm [cO 7 [.null, .null, .null, .null, .int 0, .int 0, .int 0, .int 0, .int 0]] H) = some (.inl none, aL M (mm + 28) (suL M su0) H) := fun M mm H => by
    refine (aL_v (c := 7) (N := M) rfl).trans ((B_Su_init_0 _ _ _).trans ?_)
    simp (disch := simp) only [aL_new, aL_F, aL_g, aL_1, obs, List.cons_append, List.nil_append, List.length_cons, List.length_nil, Nat.zero_add, Nat.reduceAdd, List.set_cons_zero, List.set_cons_succ, Nat.add_zero, Nat.add_assoc]
    refine congrArg (fun z => some (Sum.inl none, aL M (mm + 28) z H)) ?_
    have e8 : (cut 8 fun _ => (0 : Int32)) = fun _ => 0 := cut_0
    have e6 : (cut 6 fun _ => (0 : Int32)) = fun _ => 0 := cut_0
    unfold suL
    show _ = [_, cI 8 (cut 8 fun _ => 0), cI 6 (cut 6 fun _ => 0), cI 6 (cut 6 fun _ => 0), cI 8 (cut 8 fun _ => 0)]
    rw [e8, e6]
    rfl
  rw [aL_0, aL_1]
  refine (e _ _ _).trans ?_
  show some (Sum.inl none, aL (N + cs.length) (m + 9 + 28) _ (aL N m cs H).2.2) = _
  rw [aL_aL]
/-- the first seven cells but for the object itself -/
def c6 : List pC := [cO 8 [.ref 2, .int 0, .int (-1), .int 0, .int 0, .int 0, .int 0], cI 600 (fun _ => 0), cO 4 [.ref 4, .ref 5, .int 0, .int 0], cI 48 (fun _ => 0), cI 256 (fun _ => 0), cQ 3 (fun _ => none)]
/-- the heap when the program's object is made -/
def hY (H : pH) : pH := h0 (aL 0 0 (cO 10 [] :: c6) H).2.2 (cO 10 [.ref 1, .ref 3, .ref 6, .ref 7, .ref 12, .ref 16, .ref 18, .ref 24, .null, .int 0, .int 0, .int 0, .int 0, .int 0])
theorem aL_h0 {m : Nat} {H : pH} (fs : List Value) (m' : Nat) : aL 0 m (cO 10 fs :: c6) H = aL 7 m [] (h0 (aL 0 m' (cO 10 [] :: c6) H).2.2 (cO 10 fs)) := by
  refine congrArg (fun z => (7, m, z)) (funext fun j => ?_)
  by_cases e : j = 0
  · subst e; rfl
  · show (if 0 ≤ j then _ else _) = if 7 ≤ j then _ else _
    have h : h0 (aL 0 m' (cO 10 [] :: c6) H).2.2 (cO 10 fs) j = (if 0 ≤ j then (match (cO 10 [] :: c6)[j - 0]? with | some x => some x | none => H j) else H j) := h0_n e
    rw [h]
    obtain ⟨k, rfl⟩ : ∃ k, j = k + 1 := ⟨j - 1, by omega⟩
    by_cases g : 7 ≤ k + 1
    · rw [if_pos g]; rfl
    · rw [if_neg g]; rfl
set_option maxRecDepth 4000 in
theorem c_Y_init (d : Nat) {H : pH} : vcall (d + 3) m_Y_init [.ref 0] (aL 0 14 [cO 10 [.null, .null, .null, .null, .null, .null, .null, .null, .null, .int 0, .int 0, .int 0, .int 0, .int 0]] H) = some (.inl none, aL 7 1370 (uCS 7 su0) (hY H)) := by
  refine (aL_v (c := 10) (N := 0) rfl).trans ((B_Y_init_0 _ _ _).trans ?_)
  rw [nw_Tp (d + 1), kC0_v]
  have e1 : ∀ (q : Nat), pF (aL 0 621 ([cO 10 [.null, .null, .null, .null, .null, .null, .null, .null, .null, .int 0, .int 0, .int 0, .int 0, .int 0]] ++ [cO 8 [.ref 2, .int 0, .int (-1), .int 0, .int 0, .int 0, .int 0], cI 600 (fun _ => 0)]) H) 0 10 0 (.ref q) = some (aL 0 621 [cO 10 [.ref q, .null, .null, .null, .null, .null, .null, .null, .null, .int 0, .int 0, .int 0, .int 0, .int 0], cO 8 [.ref 2, .int 0, .int (-1), .int 0, .int 0, .int 0, .int 0], cI 600 (fun _ => 0)] H) := fun q => aL_F (by decide) _
  have e1' := e1 1
  show (pF (aL 0 621 ([cO 10 [.null, .null, .null, .null, .null, .null, .null, .null, .null, .int 0, .int 0, .int 0, .int 0, .int 0]] ++ [cO 8 [.ref 2, .int 0, .int (-1), .int 0, .int 0, .int 0, .int 0], cI 600 (fun _ => 0)]) H) 0 10 0 (.ref 1)).bind _ = _
  rw [e1', obs, nw_Pl (d + 1), kC0_v]
  have e2 : pF (aL 0 929 ([cO 10 [.ref 1, .null, .null, .null, .null, .null, .null, .null, .null, .int 0, .int 0, .int 0, .int 0, .int 0], cO 8 [.ref 2, .int 0, .int (-1), .int 0, .int 0, .int 0, .int 0], cI 600 (fun _ => 0)] ++ [cO 4 [.ref 4, .ref 5, .int 0, .int 0], cI 48 (fun _ => 0), cI 256 (fun _ => 0)]) H) 0 10 1 (.ref 3) = some (aL 0 929 [cO 10 [.ref 1, .ref 3, .null, .null, .null, .null, .null, .null, .null, .int 0, .int 0, .int 0, .int 0, .int 0], cO 8 [.ref 2, .int 0, .int (-1), .int 0, .int 0, .int 0, .int 0], cI 600 (fun _ => 0), cO 4 [.ref 4, .ref 5, .int 0, .int 0], cI 48 (fun _ => 0), cI 256 (fun _ => 0)] H) := aL_F (by decide) _
  show (pF (aL 0 929 ([cO 10 [.ref 1, .null, .null, .null, .null, .null, .null, .null, .null, .int 0, .int 0, .int 0, .int 0, .int 0], cO 8 [.ref 2, .int 0, .int (-1), .int 0, .int 0, .int 0, .int 0], cI 600 (fun _ => 0)] ++ [cO 4 [.ref 4, .ref 5, .int 0, .int 0], cI 48 (fun _ => 0), cI 256 (fun _ => 0)]) H) 0 10 1 (.ref 3)).bind _ = _
  rw [e2, obs, aL_new]
  have e3 : pF (aL 0 932 ([cO 10 [.ref 1, .ref 3, .null, .null, .null, .null, .null, .null, .null, .int 0, .int 0, .int 0, .int 0, .int 0], cO 8 [.ref 2, .int 0, .int (-1), .int 0, .int 0, .int 0, .int 0], cI 600 (fun _ => 0), cO 4 [.ref 4, .ref 5, .int 0, .int 0], cI 48 (fun _ => 0), cI 256 (fun _ => 0)] ++ [cQ 3 (fun _ => none)]) H) 0 10 2 (.ref 6) = some (aL 0 932 (cO 10 [.ref 1, .ref 3, .ref 6, .null, .null, .null, .null, .null, .null, .int 0, .int 0, .int 0, .int 0, .int 0] :: c6) H) := aL_F (by decide) _
  show (pF (aL 0 932 ([cO 10 [.ref 1, .ref 3, .null, .null, .null, .null, .null, .null, .null, .int 0, .int 0, .int 0, .int 0, .int 0], cO 8 [.ref 2, .int 0, .int (-1), .int 0, .int 0, .int 0, .int 0], cI 600 (fun _ => 0), cO 4 [.ref 4, .ref 5, .int 0, .int 0], cI 48 (fun _ => 0), cI 256 (fun _ => 0)] ++ [cQ 3 (fun _ => none)]) H) 0 10 2 (.ref 6)).bind _ = _
  rw [e3, obs, aL_h0 _ 0, nw_Su (d + 1), kC0_v]
  have hN : 0 < 7 := by decide
  have f3 : pF (aL 7 (932 + 37) ([] ++ suL (7 + ([] : List pC).length) su0) (h0 (aL 0 0 (cO 10 [] :: c6) H).2.2 (cO 10 [.ref 1, .ref 3, .ref 6, .null, .null, .null, .null, .null, .null, .int 0, .int 0, .int 0, .int 0, .int 0]))) 0 10 3 (.ref (aL 7 932 [] (h0 (aL 0 0 (cO 10 [] :: c6) H).2.2 (cO 10 [.ref 1, .ref 3, .ref 6, .null, .null, .null, .null, .null, .null, .int 0, .int 0, .int 0, .int 0, .int 0]))).1) = some (aL 7 969 (suL 7 su0) (h0 (aL 0 0 (cO 10 [] :: c6) H).2.2 (cO 10 [.ref 1, .ref 3, .ref 6, .ref 7, .null, .null, .null, .null, .null, .int 0, .int 0, .int 0, .int 0, .int 0]))) := aL_f0 hN (by decide) _
  rw [f3, obs, nw_Lw (d + 1), kC0_v]
  have f4 : pF (aL 7 (969 + 226) (suL 7 su0 ++ lwL (7 + (suL 7 su0).length) lw0) (h0 (aL 0 0 (cO 10 [] :: c6) H).2.2 (cO 10 [.ref 1, .ref 3, .ref 6, .ref 7, .null, .null, .null, .null, .null, .int 0, .int 0, .int 0, .int 0, .int 0]))) 0 10 4 (.ref (aL 7 969 (suL 7 su0) (h0 (aL 0 0 (cO 10 [] :: c6) H).2.2 (cO 10 [.ref 1, .ref 3, .ref 6, .ref 7, .null, .null, .null, .null, .null, .int 0, .int 0, .int 0, .int 0, .int 0]))).1) = some (aL 7 1195 (suL 7 su0 ++ lwL 12 lw0) (h0 (aL 0 0 (cO 10 [] :: c6) H).2.2 (cO 10 [.ref 1, .ref 3, .ref 6, .ref 7, .ref 12, .null, .null, .null, .null, .int 0, .int 0, .int 0, .int 0, .int 0]))) := aL_f0 hN (by decide) _
  rw [f4, obs, nw_Bk (d + 1), kC0_v]
  have f5 : pF (aL 7 (1195 + 11) (suL 7 su0 ++ lwL 12 lw0 ++ bkL (7 + (suL 7 su0 ++ lwL 12 lw0).length)) (h0 (aL 0 0 (cO 10 [] :: c6) H).2.2 (cO 10 [.ref 1, .ref 3, .ref 6, .ref 7, .ref 12, .null, .null, .null, .null, .int 0, .int 0, .int 0, .int 0, .int 0]))) 0 10 5 (.ref (aL 7 1195 (suL 7 su0 ++ lwL 12 lw0) (h0 (aL 0 0 (cO 10 [] :: c6) H).2.2 (cO 10 [.ref 1, .ref 3, .ref 6, .ref 7, .ref 12, .null, .null, .null, .null, .int 0, .int 0, .int 0, .int 0, .int 0]))).1) = some (aL 7 1206 (suL 7 su0 ++ (lwL 12 lw0 ++ bkL 16)) (h0 (aL 0 0 (cO 10 [] :: c6) H).2.2 (cO 10 [.ref 1, .ref 3, .ref 6, .ref 7, .ref 12, .ref 16, .null, .null, .null, .int 0, .int 0, .int 0, .int 0, .int 0]))) := aL_f0 hN (by decide) _
  rw [f5, obs]
  have gN3 : ∀ (m : Nat) (cs : List pC) (fs : List Value) (x : pC) (k : Nat), 0 < 7 + cs.length → fs[3]? = some (.ref 7) → gFr (pNew (aL 7 m cs (h0 (aL 0 0 (cO 10 [] :: c6) H).2.2 (cO 10 fs))) x k) 0 10 3 = some 7 := fun m cs fs x k hl hf => by
    rw [gFr_nw (by show 0 ≠ 7 + cs.length; omega)]
    exact gFr_at ((aL_o (Or.inl hN)).trans rfl) hf
  rw [gN3 _ _ _ _ _ (by omega) rfl, obs, nw_Sc d, kC0_v]
  have f6 : pF (aL 7 (1206 + 82) (suL 7 su0 ++ (lwL 12 lw0 ++ bkL 16) ++ scL (7 + (5 + (lwL 12 lw0 ++ bkL 16).length)) 7 (sc0 (su0.2 11) (su0.1 48))) (h0 (aL 0 0 (cO 10 [] :: c6) H).2.2 (cO 10 [.ref 1, .ref 3, .ref 6, .ref 7, .ref 12, .ref 16, .null, .null, .null, .int 0, .int 0, .int 0, .int 0, .int 0]))) 0 10 6 (.ref (aL 7 1206 (suL 7 su0 ++ (lwL 12 lw0 ++ bkL 16)) (h0 (aL 0 0 (cO 10 [] :: c6) H).2.2 (cO 10 [.ref 1, .ref 3, .ref 6, .ref 7, .ref 12, .ref 16, .null, .null, .null, .int 0, .int 0, .int 0, .int 0, .int 0]))).1) = some (aL 7 1288 (suL 7 su0 ++ (lwL 12 lw0 ++ bkL 16 ++ scL 18 7 (sc0 (su0.2 11) (su0.1 48)))) (h0 (aL 0 0 (cO 10 [] :: c6) H).2.2 (cO 10 [.ref 1, .ref 3, .ref 6, .ref 7, .ref 12, .ref 16, .ref 18, .null, .null, .int 0, .int 0, .int 0, .int 0, .int 0]))) := aL_f0 hN (by decide) _
  rw [f6, obs, gN3 _ _ _ _ _ (by omega) rfl, obs, nw_Sc d, kC0_v]
  have f7 : pF (aL 7 (1288 + 82) (suL 7 su0 ++ (lwL 12 lw0 ++ bkL 16 ++ scL 18 7 (sc0 (su0.2 11) (su0.1 48))) ++ scL (7 + (5 + (lwL 12 lw0 ++ bkL 16 ++ scL 18 7 (sc0 (su0.2 11) (su0.1 48))).length)) 7 (sc0 (su0.2 11) (su0.1 48))) (h0 (aL 0 0 (cO 10 [] :: c6) H).2.2 (cO 10 [.ref 1, .ref 3, .ref 6, .ref 7, .ref 12, .ref 16, .ref 18, .null, .null, .int 0, .int 0, .int 0, .int 0, .int 0]))) 0 10 7 (.ref (aL 7 1288 (suL 7 su0 ++ (lwL 12 lw0 ++ bkL 16 ++ scL 18 7 (sc0 (su0.2 11) (su0.1 48)))) (h0 (aL 0 0 (cO 10 [] :: c6) H).2.2 (cO 10 [.ref 1, .ref 3, .ref 6, .ref 7, .ref 12, .ref 16, .ref 18, .null, .null, .int 0, .int 0, .int 0, .int 0, .int 0]))).1) = some (aL 7 1370 (uCS 7 su0) (hY H)) := aL_f0 hN (by decide) _
  rw [f7, obs]
