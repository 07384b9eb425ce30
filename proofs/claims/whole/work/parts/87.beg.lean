/-! A STUDIO: the program begins anew -/
def h0 (H : pH) (c : pC) : pH := fun j => if j = 0 then some c else H j
theorem h0_n {H : pH} {c : pC} {j : Nat} (h : j ≠ 0) : h0 H c j = H j := if_neg h
theorem h0_h0 (H : pH) (c c' : pC) : h0 (h0 H c) c' = h0 H c' := by
  funext j
  by_cases e : j = 0
  · subst e; rfl
  · rw [h0_n e, h0_n e, h0_n e]
theorem h0_id {H : pH} {c : pC} (h : H 0 = some c) : H = h0 H c := by
  funext j
  by_cases e : j = 0
  · subst e; exact h
  · rw [h0_n e]
theorem aL_s0 {N m : Nat} {cs : List pC} {H : pH} (h : 0 < N) (c : pC) : pSet (aL N m cs H) 0 c = aL N m cs (h0 H c) := by
  refine congrArg (fun z => (N + cs.length, m, z)) (funext fun j => ?_)
  by_cases e : j = 0
  · subst e
    rw [if_pos rfl]
    show _ = if N ≤ 0 then _ else _
    rw [if_neg (by omega)]; rfl
  · rw [if_neg e]
    show (if N ≤ j then _ else _) = if N ≤ j then _ else _
    rw [h0_n e]
theorem aL_f0 {N m k : Nat} {cs : List pC} {H : pH} {fs : List Value} (h : 0 < N) (hk : k < fs.length) (v : Value) : pF (aL N m cs (h0 H (cO 10 fs))) 0 10 k v = some (aL N m cs (h0 H (cO 10 (fs.set k v)))) := by
  rw [pF_at (s := aL N m cs (h0 H (cO 10 fs))) ((aL_o (Or.inl h)).trans rfl) hk, aL_s0 h, h0_h0]
theorem aL_aL (N m m' : Nat) (cs cs' : List pC) (H : pH) : aL (N + cs.length) m' cs' (aL N m cs H).2.2 = aL N m' (cs ++ cs') H := by
  have e : N + (cs ++ cs').length = N + cs.length + cs'.length := by simp; omega
  unfold aL
  rw [e]
  refine congrArg (fun z => (N + cs.length + cs'.length, m', z)) (funext fun j => ?_)
  dsimp only
  by_cases g : N ≤ j
  · rw [if_pos g, if_pos g]
    by_cases g2 : N + cs.length ≤ j
    · rw [if_pos g2, List.getElem?_append_right (by omega), show j - N - cs.length = j - (N + cs.length) by omega, List.getElem?_eq_none (l := cs) (by omega)]
    · rw [if_neg g2, List.getElem?_append_left (by omega)]
  · rw [if_neg g, if_neg g, if_neg (by omega)]
/-- a book's cells at its beginning -/
def bkL (N : Nat) : List pC := [cO 0 [.ref (N + 1), .int 0, .int 0], cI 8 (fun _ => 0)]
theorem nw_Lw (d : Nat) {N m : Nat} {cs : List pC} {H : pH} : vcall (d + 1) m_Lw_init [.ref (aL N m cs H).1] (pNew (aL N m cs H) (cO 1 [.null, .null, .null, .int 0]) 4) = some (.inl none, aL N (m + 226) (cs ++ lwL (N + cs.length) lw0) H) := by
  rw [aL_0, aL_1]
  refine (c_Lw_new d).trans ?_
  show some (Sum.inl none, aL (N + cs.length) (m + 4 + 222) _ (aL N m cs H).2.2) = _
  rw [aL_aL]
theorem nw_Bk (d : Nat) {N m : Nat} {cs : List pC} {H : pH} : vcall (d + 1) m_Bk_init [.ref (aL N m cs H).1] (pNew (aL N m cs H) (cO 0 [.null, .int 0, .int 0]) 3) = some (.inl none, aL N (m + 11) (cs ++ bkL (N + cs.length)) H) := by
  have e : ∀ (M mm : Nat) (H : pH), vcall (d + 1) m_Bk_init [.ref M] (aL M mm [cO 0 [.null, .int 0, .int 0]] H) = some (.inl none, aL M (mm + 8) (bkL M) H) := fun M mm H => by
    refine (aL_v (c := 0) (N := M) rfl).trans ((B_Bk_init_0 _ _ _).trans ?_)
    simp (disch := simp) only [aL_new, aL_F, aL_g, aL_1, obs, List.cons_append, List.nil_append, List.length_cons, List.length_nil, Nat.zero_add, Nat.reduceAdd, List.set_cons_zero, List.set_cons_succ, Nat.add_zero, Nat.add_assoc]
    rfl
  rw [aL_0, aL_1]
  refine (e _ _ _).trans ?_
  show some (Sum.inl none, aL (N + cs.length) (m + 3 + 8) _ (aL N m cs H).2.2) = _
  rw [aL_aL]
theorem nw_Sc (d : Nat) {N m : Nat} {cs : List pC} {H : pH} {r : rT} : vcall (d + 2) m_Sc_init [.ref (aL N m (suL N r ++ cs) H).1, .ref N] (pNew (aL N m (suL N r ++ cs) H) (cO 5 [.null, .null, .null, .null, .null, .null, .int 0, .int 0]) 8) = some (.inl none, aL N (m + 82) (suL N r ++ cs ++ scL (N + (5 + cs.length)) N (sc0 (r.2 11) (r.1 48))) H) := by
  have l : (suL N r ++ cs).length = 5 + cs.length := by rw [List.length_append]; rfl
  rw [aL_0, aL_1, l]
  refine (c_Sc_new d (u := N) (f := r.2 11) (x := r.1 48) (fs := [.ref (N + 1), .ref (N + 2), .ref (N + 3), .ref (N + 4), .int (r.1 44), .int (r.1 45), .int (r.1 46), .int (r.1 47), .int (r.1 48)]) (by omega) (aL_i (i := 0) rfl) rfl rfl (aL_i (i := 1) rfl)).trans ?_
  show some (Sum.inl none, aL (N + (5 + cs.length)) (m + 8 + 74) _ (aL N m (suL N r ++ cs) H).2.2) = _
  rw [← l, aL_aL, l]
/-- all its cells -/
def uCS (N : Nat) (r : rT) : List pC := suL N r ++ lwL (N + 5) lw0 ++ bkL (N + 9) ++ scL (N + 11) N (sc0 (r.2 11) (r.1 48)) ++ scL (N + 17) N (sc0 (r.2 11) (r.1 48))
theorem c_Y_begin (d : Nat) {N mm : Nat} {H : pH} {r : rT} {a0 a1 a2 a3 a4 a5 a6 a7 a8 a9 a10 a11 a12 a13 : Value} (hN : 0 < N) (hH : H 0 = some (cO 10 [a0, a1, a2, a3, a4, a5, a6, a7, a8, a9, a10, a11, a12, a13])) : vcall (d + 3) m_Y_begin [.ref 0, .ref N] (aL N mm (suL N r) H) = some (.inl none, aL N (mm + 401) (uCS N r) (h0 H (cO 10 [a0, a1, a2, .ref N, .ref (N + 5), .ref (N + 9), .ref (N + 11), .ref (N + 17), .null, .int 0, .int 0, .int 0, a12, a13]))) := by
  have hv : vcall (d + 3) m_Y_begin [.ref 0, .ref N] (aL N mm (suL N r) H) = den (d + 2) m_Y_begin 0 (ent m_Y_begin [.ref 0, .ref N]) [] (aL N mm (suL N r) H) := by
    have h1 : rcv m_Y_begin [.ref 0, .ref N] (aL N mm (suL N r) H) = true := isO_at (c := 10) ((aL_o (Or.inl hN)).trans hH)
    unfold vcall
    rw [h1]
    rfl
  refine hv.trans ((B_Y_begin_0 _ _ _ _).trans ?_)
  have e1 : pF (aL N mm (suL N r) H) 0 10 3 (.ref N) = some (aL N mm (suL N r) (h0 H (cO 10 [a0, a1, a2, .ref N, a4, a5, a6, a7, a8, a9, a10, a11, a12, a13]))) := by
    have := aL_f0 (N := N) (m := mm) (k := 3) (cs := suL N r) (H := H) (fs := [a0, a1, a2, a3, a4, a5, a6, a7, a8, a9, a10, a11, a12, a13]) hN (by show 3 < 14; decide) (.ref N)
    rw [← h0_id hH] at this
    exact this
  have e2 := nw_Lw (d + 1) (N := N) (m := mm) (cs := suL N r) (H := h0 H (cO 10 [a0, a1, a2, .ref N, a4, a5, a6, a7, a8, a9, a10, a11, a12, a13]))
  have e3 : pF (aL N (mm + 226) (suL N r ++ lwL (N + (suL N r).length) lw0) (h0 H (cO 10 [a0, a1, a2, .ref N, a4, a5, a6, a7, a8, a9, a10, a11, a12, a13]))) 0 10 4 (.ref (aL N mm (suL N r) (h0 H (cO 10 [a0, a1, a2, .ref N, a4, a5, a6, a7, a8, a9, a10, a11, a12, a13]))).1) = some (aL N (mm + 226) (suL N r ++ lwL (N + 5) lw0) (h0 H (cO 10 [a0, a1, a2, .ref N, .ref (N + 5), a5, a6, a7, a8, a9, a10, a11, a12, a13]))) := aL_f0 hN (by show 4 < 14; decide) _
  have e4 := nw_Bk (d + 1) (N := N) (m := mm + 226) (cs := suL N r ++ lwL (N + 5) lw0) (H := h0 H (cO 10 [a0, a1, a2, .ref N, .ref (N + 5), a5, a6, a7, a8, a9, a10, a11, a12, a13]))
  have e5 : pF (aL N (mm + 226 + 11) (suL N r ++ lwL (N + 5) lw0 ++ bkL (N + (suL N r ++ lwL (N + 5) lw0).length)) (h0 H (cO 10 [a0, a1, a2, .ref N, .ref (N + 5), a5, a6, a7, a8, a9, a10, a11, a12, a13]))) 0 10 5 (.ref (aL N (mm + 226) (suL N r ++ lwL (N + 5) lw0) (h0 H (cO 10 [a0, a1, a2, .ref N, .ref (N + 5), a5, a6, a7, a8, a9, a10, a11, a12, a13]))).1) = some (aL N (mm + 226 + 11) (suL N r ++ (lwL (N + 5) lw0 ++ bkL (N + 9))) (h0 H (cO 10 [a0, a1, a2, .ref N, .ref (N + 5), .ref (N + 9), a6, a7, a8, a9, a10, a11, a12, a13]))) := aL_f0 hN (by show 5 < 14; decide) _
  have e6 := nw_Sc d (N := N) (m := mm + 226 + 11) (cs := lwL (N + 5) lw0 ++ bkL (N + 9)) (r := r) (H := h0 H (cO 10 [a0, a1, a2, .ref N, .ref (N + 5), .ref (N + 9), a6, a7, a8, a9, a10, a11, a12, a13]))
  have e7 : pF (aL N (mm + 226 + 11 + 82) (suL N r ++ (lwL (N + 5) lw0 ++ bkL (N + 9)) ++ scL (N + (5 + (lwL (N + 5) lw0 ++ bkL (N + 9)).length)) N (sc0 (r.2 11) (r.1 48))) (h0 H (cO 10 [a0, a1, a2, .ref N, .ref (N + 5), .ref (N + 9), a6, a7, a8, a9, a10, a11, a12, a13]))) 0 10 6 (.ref (aL N (mm + 226 + 11) (suL N r ++ (lwL (N + 5) lw0 ++ bkL (N + 9))) (h0 H (cO 10 [a0, a1, a2, .ref N, .ref (N + 5), .ref (N + 9), a6, a7, a8, a9, a10, a11, a12, a13]))).1) = some (aL N (mm + 226 + 11 + 82) (suL N r ++ (lwL (N + 5) lw0 ++ bkL (N + 9) ++ scL (N + 11) N (sc0 (r.2 11) (r.1 48)))) (h0 H (cO 10 [a0, a1, a2, .ref N, .ref (N + 5), .ref (N + 9), .ref (N + 11), a7, a8, a9, a10, a11, a12, a13]))) := aL_f0 hN (by show 6 < 14; decide) _
  have e8 := nw_Sc d (N := N) (m := mm + 226 + 11 + 82) (cs := lwL (N + 5) lw0 ++ bkL (N + 9) ++ scL (N + 11) N (sc0 (r.2 11) (r.1 48))) (r := r) (H := h0 H (cO 10 [a0, a1, a2, .ref N, .ref (N + 5), .ref (N + 9), .ref (N + 11), a7, a8, a9, a10, a11, a12, a13]))
  have e9 : pF (aL N (mm + 226 + 11 + 82 + 82) (suL N r ++ (lwL (N + 5) lw0 ++ bkL (N + 9) ++ scL (N + 11) N (sc0 (r.2 11) (r.1 48))) ++ scL (N + (5 + (lwL (N + 5) lw0 ++ bkL (N + 9) ++ scL (N + 11) N (sc0 (r.2 11) (r.1 48))).length)) N (sc0 (r.2 11) (r.1 48))) (h0 H (cO 10 [a0, a1, a2, .ref N, .ref (N + 5), .ref (N + 9), .ref (N + 11), a7, a8, a9, a10, a11, a12, a13]))) 0 10 7 (.ref (aL N (mm + 226 + 11 + 82) (suL N r ++ (lwL (N + 5) lw0 ++ bkL (N + 9) ++ scL (N + 11) N (sc0 (r.2 11) (r.1 48)))) (h0 H (cO 10 [a0, a1, a2, .ref N, .ref (N + 5), .ref (N + 9), .ref (N + 11), a7, a8, a9, a10, a11, a12, a13]))).1) = some (aL N (mm + 401) (uCS N r) (h0 H (cO 10 [a0, a1, a2, .ref N, .ref (N + 5), .ref (N + 9), .ref (N + 11), .ref (N + 17), a8, a9, a10, a11, a12, a13]))) := aL_f0 hN (by show 7 < 14; decide) _
  rw [e1, obs, e2, kC0_v, e3, obs, e4, kC0_v, e5, obs, e6, kC0_v, e7, obs, e8, kC0_v, e9, obs]
  rw [aL_f0 hN (by show 8 < 14; decide), obs, aL_f0 hN (by show 9 < 14; decide), obs, aL_f0 hN (by show 10 < 14; decide), obs, aL_f0 hN (by show 11 < 14; decide), obs]
  rfl
/-- where they lie, what they tell -/
def uL (M : Nat) (im : Nat → Option Nat) : xA := (M, M + 5, M + 9, M + 11, M + 17, none, im)
def nU (s r : rT) : rT := (fun k => if k = 9 ∨ k = 10 ∨ k = 11 then 0 else if 44 ≤ k ∧ k < 49 then r.1 k else if k = 53 then 3 else if k = 61 ∨ k = 62 then 0 else s.1 k, fun a => if a = 0 ∨ a = 1 then sc0 (r.2 11) (r.1 48) else if 11 ≤ a ∧ a < 15 then r.2 a else if 21 ≤ a ∧ a < 24 then lw0.2 a else if a = 31 then fun _ => 0 else s.2 a)
theorem uL_D {M : Nat} {im : Nat → Option Nat} (h7 : 7 ≤ M) (h : M + 23 ≤ 30 ∨ 59 ≤ M) : Dj (uL M im) := by
  have e1 : aU (uL M im) = M := rfl
  have e2 : aW (uL M im) = M + 5 := rfl
  have e3 : aK (uL M im) = M + 9 := rfl
  have e4 : aP (uL M im) = M + 11 := rfl
  have e5 : aQ (uL M im) = M + 17 := rfl
  unfold Dj dj
  rw [e1, e2, e3, e4, e5]
  omega
theorem uL_O {M j : Nat} {im : Nat → Option Nat} (h7 : 7 ≤ j) (h : j < M ∨ M + 23 ≤ j) : Ot (uL M im) j := by
  have e1 : aU (uL M im) = M := rfl
  have e2 : aW (uL M im) = M + 5 := rfl
  have e3 : aK (uL M im) = M + 9 := rfl
  have e4 : aP (uL M im) = M + 11 := rfl
  have e5 : aQ (uL M im) = M + 17 := rfl
  unfold Ot
  rw [e1, e2, e3, e4, e5]
  omega
theorem uL_fix {F : pS} {M : Nat} {im : Nat → Option Nat} {s r : rT} (hC : ∀ i, i < 23 → F.2.2 (M + i) = (uCS M r)[i]?) (hF : ∀ i, i < 7 → F.2.2 i = fxC (uL M im) (nU s r) i) : F = xS F (uL M im) (nU s r) := by
  have e8 : (cut 8 fun _ => (0 : Int32)) = fun _ => 0 := cut_0
  refine xS_fix (fun i hi => ?_) (fun i hi => ?_) (fun i hi => ?_) (fun i hi => ?_) (fun i hi => ?_) hF
  · refine Eq.trans (congrArg F.2.2 (show aP (uL M im) + i = M + (11 + i) by show M + 11 + i = _; omega)) ((hC (11 + i) (by omega)).trans ?_)
    have : i = 0 ∨ i = 1 ∨ i = 2 ∨ i = 3 ∨ i = 4 ∨ i = 5 := by omega
    rcases this with rfl | rfl | rfl | rfl | rfl | rfl <;> rfl
  · refine Eq.trans (congrArg F.2.2 (show aQ (uL M im) + i = M + (17 + i) by show M + 17 + i = _; omega)) ((hC (17 + i) (by omega)).trans ?_)
    have : i = 0 ∨ i = 1 ∨ i = 2 ∨ i = 3 ∨ i = 4 ∨ i = 5 := by omega
    rcases this with rfl | rfl | rfl | rfl | rfl | rfl <;> rfl
  · refine Eq.trans (congrArg F.2.2 (show aW (uL M im) + i = M + (5 + i) by show M + 5 + i = _; omega)) ((hC (5 + i) (by omega)).trans ?_)
    have : i = 0 ∨ i = 1 ∨ i = 2 ∨ i = 3 := by omega
    rcases this with rfl | rfl | rfl | rfl <;> rfl
  · refine (hC i (by omega)).trans ?_
    have : i = 0 ∨ i = 1 ∨ i = 2 ∨ i = 3 ∨ i = 4 := by omega
    rcases this with rfl | rfl | rfl | rfl | rfl <;> rfl
  · refine Eq.trans (congrArg F.2.2 (show aK (uL M im) + i = M + (9 + i) by show M + 9 + i = _; omega)) ((hC (9 + i) (by omega)).trans ?_)
    have : i = 0 ∨ i = 1 := by omega
    rcases this with rfl | rfl
    · rfl
    · show some (cI 8 fun _ => (0 : Int32)) = some (cI 8 (cut 8 fun _ => 0))
      rw [e8]
theorem sc0_I {m n : Nat} {f : Nat → Int32} {x : Int32} (h6 : n ≤ 6) (hf : ∀ t, t < 8 → ∃ j, j ≤ 9 ∧ f t = Int32.ofNat j) (hx : ∃ j, j ≤ 99 ∧ x = Int32.ofNat j) : scI 800 m n (sc0 f x) := by
  refine ⟨fun p hp => Or.inl ?_, fun p hp => ⟨0, by decide, ?_⟩, ⟨0, by decide, ?_, fun p hp => ⟨0, by decide, ?_⟩⟩, fun t p ht hp => ⟨0, by decide, ?_⟩, ?_, fun t ht => ?_⟩
  · unfold sc0; rw [if_neg (by omega), if_pos (by omega)]
  · unfold sc0; rw [if_neg (by omega), if_neg (by omega), if_neg (by omega)]; rfl
  · unfold sc0; rw [if_neg (by omega), if_neg (by omega), if_neg (by omega)]; rfl
  · unfold sc0; rw [if_neg (by omega), if_neg (by omega), if_neg (by omega)]; rfl
  · unfold sc0; rw [if_neg (by omega), if_neg (by omega), if_neg (by omega)]; rfl
  · unfold sc0; rw [if_neg (by omega), if_neg (by omega), if_pos rfl]; exact hx
  · unfold sc0; rw [if_pos ht]; exact hf t ht
