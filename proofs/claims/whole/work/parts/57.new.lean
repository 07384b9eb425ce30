/-! NEW OBJECTS: a row of cells behind all that is there; packing, packed -/
def aL (N m : Nat) (cs : List pC) (H : pH) : pS := (N + cs.length, m, fun j => if N ≤ j then (match cs[j - N]? with | some x => some x | none => H j) else H j)
theorem aL_1 (N m : Nat) (cs : List pC) (H : pH) : (aL N m cs H).1 = N + cs.length := rfl
theorem aL_i {N m : Nat} {cs : List pC} {H : pH} {i : Nat} {x : pC} (h : cs[i]? = some x) : (aL N m cs H).2.2 (N + i) = some x := by
  show (if _ then _ else _) = _
  rw [if_pos (by omega), Nat.add_sub_cancel_left, h]
theorem aL_o {N m : Nat} {cs : List pC} {H : pH} {j : Nat} (h : j < N ∨ N + cs.length ≤ j) : (aL N m cs H).2.2 j = H j := by
  show (if _ then _ else _) = _
  by_cases g : N ≤ j
  · rw [if_pos g, List.getElem?_eq_none (by omega)]
  · rw [if_neg g]
theorem aL_0 (s : pS) (x : pC) (k : Nat) : pNew s x k = aL s.1 (s.2.1 + k) [x] s.2.2 := by
  refine congrArg (fun z => (s.1 + 1, s.2.1 + k, z)) (funext fun j => ?_)
  by_cases h : j = s.1
  · subst h; rw [if_pos rfl, if_pos (Nat.le_refl _), Nat.sub_self]; rfl
  · rw [if_neg h]
    by_cases g : s.1 ≤ j
    · rw [if_pos g, List.getElem?_eq_none (by simp; omega)]
    · rw [if_neg g]
theorem aL_new (N m : Nat) (cs : List pC) (H : pH) (x : pC) (k : Nat) : pNew (aL N m cs H) x k = aL N (m + k) (cs ++ [x]) H := by
  have e : N + (cs ++ [x]).length = N + cs.length + 1 := by simp; omega
  unfold aL pNew
  rw [e]
  refine congrArg (fun z => (N + cs.length + 1, m + k, z)) (funext fun j => ?_)
  dsimp only
  by_cases h : j = N + cs.length
  · subst h; rw [if_pos rfl, if_pos (by omega), Nat.add_sub_cancel_left, List.getElem?_append_right (Nat.le_refl _), Nat.sub_self]; rfl
  · rw [if_neg h]
    by_cases g : N ≤ j
    · rw [if_pos g, if_pos g]
      by_cases g2 : j - N < cs.length
      · rw [List.getElem?_append_left g2]
      · rw [List.getElem?_eq_none (by omega), List.getElem?_eq_none (by simp; omega)]
    · rw [if_neg g, if_neg g]
theorem aL_set {N m : Nat} {cs : List pC} {H : pH} {i : Nat} (hi : i < cs.length) (x : pC) : pSet (aL N m cs H) (N + i) x = aL N m (cs.set i x) H := by
  unfold aL pSet
  rw [List.length_set]
  refine congrArg (fun z => (N + cs.length, m, z)) (funext fun j => ?_)
  dsimp only
  by_cases h : j = N + i
  · subst h; rw [if_pos rfl, if_pos (by omega), Nat.add_sub_cancel_left, List.getElem?_set_self hi]
  · rw [if_neg h]
    by_cases g : N ≤ j
    · rw [if_pos g, if_pos g, List.getElem?_set_ne (by omega)]
    · rw [if_neg g, if_neg g]
theorem aL_F {N m : Nat} {cs : List pC} {H : pH} {c k : Nat} {fs : List Value} (hk : k < fs.length) (v : Value) : pF (aL N m (cO c fs :: cs) H) N c k v = some (aL N m (cO c (fs.set k v) :: cs) H) := by
  have h : (aL N m (cO c fs :: cs) H).2.2 N = some (cO c fs) := aL_i (i := 0) rfl
  rw [pF_at h hk]
  exact congrArg some (aL_set (i := 0) (by simp) _)
theorem aL_g {N m : Nat} {cs : List pC} {H : pH} {c k q : Nat} {fs : List Value} (h : fs[k]? = some (.ref q)) : gFr (aL N m (cO c fs :: cs) H) N c k = some q := gFr_at (aL_i (i := 0) rfl) h
theorem aL_I1 {N m n k : Nat} {o : pC} {cs : List pC} {H : pH} {f : Nat → Int32} (hk : k < n) (hn : n < 2147483648) (v : Int32) : pI (aL N m (o :: cI n f :: cs) H) (N + 1) (Int32.ofNat k) v = some (aL N m (o :: cI n (upd f k v) :: cs) H) := by
  rw [pI_at (aL_i (i := 1) rfl) hk hn]
  exact congrArg some (aL_set (i := 1) (by simp) _)
theorem xS_aL {b : pS} {L : xA} {s : rT} (o : ∀ j, b.1 ≤ j → Ot L j) (m : Nat) (cs : List pC) : aL b.1 m cs (xS b L s).2.2 = xS (aL b.1 m cs b.2.2) L s := by
  refine congrArg (fun z => (b.1 + cs.length, m, z)) (funext fun j => ?_)
  by_cases g : b.1 ≤ j
  · rw [if_pos g]
    refine Eq.trans ?_ (xS_o (b := aL b.1 m cs b.2.2) (s := s) (o j g)).symm
    show _ = if b.1 ≤ j then _ else _
    rw [if_pos g, xS_o (o j g)]
  · rw [if_neg g]
    show (if _ then _ else _) = (if _ then _ else _)
    have e : (aL b.1 m cs b.2.2).2.2 j = b.2.2 j := by show (if _ then _ else _) = _; rw [if_neg g]
    rw [e]
theorem aL_nS {N m n : Nat} {cs : List pC} {H : pH} {c : Nat → Option pC} (hn : cs.length = n) (h : ∀ i, i < n → c i = cs[i]?) : aL N m cs H = nS (N + n, m, H) N n c := by
  unfold aL nS
  rw [hn]
  refine congrArg (fun z => (N + n, m, z)) (funext fun j => ?_)
  dsimp only
  by_cases g : N ≤ j
  · rw [if_pos g]
    by_cases g2 : j < N + n
    · rw [if_pos ⟨g, g2⟩, h _ (by omega)]
      cases hh : cs[j - N]? with
      | some x => rfl
      | none => rw [List.getElem?_eq_none_iff] at hh; omega
    · rw [if_neg (by omega), List.getElem?_eq_none (by omega)]
  · rw [if_neg g, if_neg (by omega)]
/-- a method called on a new object -/
theorem aL_v {d M c N m : Nat} {cs : List pC} {H : pH} {fs : List Value} {as : List Value} (h : mO M = c) : vcall (d + 1) M (.ref N :: as) (aL N m (cO c fs :: cs) H) = den d M 0 (ent M (.ref N :: as)) [] (aL N m (cO c fs :: cs) H) := by
  have h1 : rcv M (.ref N :: as) (aL N m (cO c fs :: cs) H) = true := by
    show isO _ N (mO M) = true
    rw [h]; exact isO_at (aL_i (i := 0) rfl)
  unfold vcall
  rw [h1]
  rfl
theorem gFr_nw {S : pS} {q c i : Nat} {x : pC} {k : Nat} (h : q ≠ S.1) : gFr (pNew S x k) q c i = gFr S q c i := by
  have e : (pNew S x k).2.2 q = S.2.2 q := if_neg h
  unfold gFr gO
  rw [e]
theorem cut_0 {n : Nat} : (cut n fun _ => (0 : Int32)) = fun _ => 0 := by funext i; unfold cut; split <;> rfl
/-- a new packing, searched -/
theorem c_P_new (d : Nat) {b : pS} {L : xA} {s : rT} {q Y : Nat} (D : Dj L) (o : ∀ j, b.1 ≤ j → Ot L j) (hq : q ≤ 8) (hY : Y ≤ 400) (dy : Nat → Nat) (hdy : ∀ k, k < q → dy k ≤ 400) (t1 : s.1 46 = Int32.ofNat q) (t2 : s.1 47 = Int32.ofNat Y) (t3 : ∀ k, k < q → s.2 14 k = Int32.ofNat (dy k)) : ∃ wy bs, (fwN dy Y q 9 0 ≤ 8 → ∀ j, j < q → bs j = gp dy Y (fwN dy Y q 9 0) q 0 (fun _ => 0) j) ∧ fwN dy Y q 9 0 ≤ 9 ∧ vcall (d + 12) m_Pk_init [.ref b.1, .ref (aU L)] (pNew (xS b L s) (cO 3 [.null, .null, .null, .null, .int 0]) 5) = some (.inl none, kS (b.1 + 4, b.2.1 + 29, b.2.2) L s b.1 (fun _ => 0) (fun _ => 0) (fun _ => 0) 9) ∧ vcall (d + 12) m_Pk_search [.ref b.1] (kS (b.1 + 4, b.2.1 + 29, b.2.2) L s b.1 (fun _ => 0) (fun _ => 0) (fun _ => 0) 9) = some (.inl none, kS (b.1 + 4, b.2.1 + 29, b.2.2) L s b.1 (fun _ => 0) wy bs (fwN dy Y q 9 0)) ∧ vcall (d + 12) m_Pk_isFound [.ref b.1] (kS (b.1 + 4, b.2.1 + 29, b.2.2) L s b.1 (fun _ => 0) wy bs (fwN dy Y q 9 0)) = some (.inl (some (.int (if fwN dy Y q 9 0 ≤ 8 then 1 else 0))), kS (b.1 + 4, b.2.1 + 29, b.2.2) L s b.1 (fun _ => 0) wy bs (fwN dy Y q 9 0)) := by
  have o' : ∀ i, i < 4 → Ot L (b.1 + i) := fun i _ => o _ (by omega)
  obtain ⟨wy, bs, f', -, a1, a2, a3⟩ := c_P_lay (d + (10 - q)) (b := (b.1 + 4, b.2.1 + 29, b.2.2)) (s := s) D o' hq hY dy hdy t1 t2 t3 q 0 0 (fun _ => 0) (fun _ => 0) (fun _ => 0) 9 (by omega) (Nat.le_refl _) (by decide) (fun _ => Nat.zero_le _) (fun _ _ => rfl)
  obtain ⟨b1, b2⟩ := fw_r a2
  subst b1
  rw [show d + (10 - q) + q + 1 = d + 11 by omega] at a3
  refine ⟨wy, bs, b2, a1, ?_, ?_, ?_⟩
  · rw [aL_0]
    refine (aL_v (c := 3) (N := b.1) rfl).trans ((B_Pk_init_0 _ _ _ _).trans ?_)
    simp (disch := simp) only [aL_new, aL_F, aL_g, aL_1, obs, List.cons_append, List.nil_append, List.length_cons, List.length_nil, Nat.zero_add, Nat.reduceAdd, List.set_cons_zero, List.set_cons_succ, Nat.add_zero, Nat.add_assoc]
    rw [xS_aL o]
    refine congrArg (fun z => some (Sum.inl none, xS z L s)) ((aL_nS (n := 4) rfl (fun i hi => ?_)).trans rfl)
    have : i = 0 ∨ i = 1 ∨ i = 2 ∨ i = 3 := by omega
    rcases this with rfl | rfl | rfl | rfl
    · rfl
    · exact congrArg (fun z => some (cI 8 z)) cut_0
    · exact congrArg (fun z => some (cI 8 z)) cut_0
    · exact congrArg (fun z => some (cI 8 z)) cut_0
  · refine (kS_v o' rfl).trans ((B_Pk_search_0 _ _ _).trans ?_)
    have a3' : vcall (d + 11) m_Pk_lay [.ref b.1, .int 0, .int 0] (kS (b.1 + 4, b.2.1 + 29, b.2.2) L s b.1 (fun _ => 0) (fun _ => 0) (fun _ => 0) 9) = _ := a3
    rw [a3', kC0_v]
  · refine (kS_v o' rfl).trans ((B_Pk_isFound_0 _ _ _).trans ?_)
    simp (disch := omega) only [kS_g o', obs, ii_m1, ii_s1, obs, wF_1, wF_2, wA_1, wA_2, wR_1, wR_2, Nat.reduceEqDiff, Nat.reduceAdd, Nat.reduceMul, if_true, if_false, ite_true, ite_false, ii_la, ii_al, ii_lm, ii_ml, ii_add, ii_mul, ii_1, ii_le, ii_lt, ii_c1, ii_c2, ii_c3, ii_c4, ii_c5, ii_n1, ii_nn, kC0_v, kC1_v, kC2_v, kC3_v, kC0_x, kC1_x, kC2_x, not_true_eq_false, not_false_eq_true, ne_eq]
    by_cases h : fwN dy Y q 9 0 ≤ 8
    · rw [if_neg (by omega), if_pos h]
    · rw [if_pos (by omega), if_neg h]
theorem R_packing (d : Nat) (b : pS) (τ : rT) {q Y : Nat} (hq : q ≤ 8) (hY : Y ≤ 400) (dy : Nat → Nat) (hdy : ∀ k, k < q → dy k ≤ 400) (t1 : τ.1 24 = Int32.ofNat q) (t2 : τ.1 25 = Int32.ofNat Y) (t3 : ∀ k, k < q → τ.2 39 k = Int32.ofNat (dy k)) : ∃ τ', Er0 τ τ' ∧ vcall (d + 13) m_R_packing [.ref 30] (mS b τ) = some (.inl (some (.int (if fwN dy Y q 9 0 ≤ 8 then Int32.ofNat (fwN dy Y q 9 0) else -1))), mS b τ') := by
  obtain ⟨τ1, k1, -, e1⟩ := c_R_findPacking d b (wF τ 0 0) hq hY dy hdy t1 t2 t3
  refine ⟨τ1, (e_T0 τ).tr (k1.up (by decide) (by decide)), (vR rfl).trans ((B_R_packing_0 _ _ _).trans ?_)⟩
  simp only [m_pF, obs, e1, kC1_v]
theorem R_packed (d : Nat) (b : pS) (τ : rT) {q Y : Nat} (hq : q ≤ 8) (hY : Y ≤ 400) (dy : Nat → Nat) (hdy : ∀ k, k < q → dy k ≤ 400) (t1 : τ.1 24 = Int32.ofNat q) (t2 : τ.1 25 = Int32.ofNat Y) (t3 : ∀ k, k < q → τ.2 39 k = Int32.ofNat (dy k)) (j : Nat) (hj : j < q) : ∃ τ', Er0 τ τ' ∧ τ'.1 0 = 0 ∧ vcall (d + 13) m_R_packed [.ref 30, .int (Int32.ofNat j)] (mS b τ) = some (.inl (some (.int (if fwN dy Y q 9 0 ≤ 8 then Int32.ofNat (gp dy Y (fwN dy Y q 9 0) q 0 (fun _ => 0) j) else -1))), mS b τ') := by
  obtain ⟨τ1, k1, g1, e1⟩ := c_R_findPacking d b (wF τ 0 0) hq hY dy hdy t1 t2 t3
  have h : (0 : Int32) ≤ Int32.ofNat j ∧ Int32.ofNat j ≤ Int32.ofNat q - 1 := by rw [rg_m (by omega)]; simp (disch := omega) only [ii_m1, ii_s1, obs, wF_1, wF_2, wA_1, wA_2, wR_1, wR_2, Nat.reduceEqDiff, Nat.reduceAdd, Nat.reduceMul, if_true, if_false, ite_true, ite_false, ii_la, ii_al, ii_lm, ii_ml, ii_add, ii_mul, ii_1, ii_le, ii_lt, ii_c1, ii_c2, ii_c3, ii_c4, ii_c5, ii_n1, ii_nn, kC0_v, kC1_v, kC2_v, kC3_v, kC0_x, kC1_x, kC2_x, not_true_eq_false, not_false_eq_true, ne_eq]; omega
  refine ⟨τ1, (e_T0 τ).tr (k1.up (by decide) (by decide)), k1.1 0 (by decide), (vR rfl).trans ((B_R_packed_0 _ _ _ _).trans ?_)⟩
  simp (disch := omega) only [m_gF, m_gI, m_pF, obs, wF_1, wF_2, Nat.reduceEqDiff, if_false, kC1_v, t1, rw_ok (d + 11) _ h, rm_ok (d + 11), i10, eq_self, not_false_eq_true, if_true, e1]
  by_cases g : fwN dy Y q 9 0 ≤ 8
  · simp only [g, if_true]
    rw [if_pos (by rw [ii_n1 (by omega)]; simp), g1 g j hj]
  · simp only [g, if_false, not_true_eq_false]
theorem Go.k {S : pS} {L : xA} {s : rT} {k m : Nat} {c : Nat → Option pC} (A : AB S L) (hk : k ≤ 90) (hm : m ≤ 1900) : Go S (xS (nS (S.1 + k, S.2.1 + m, S.2.2) S.1 k c) L s) L s := by
  refine ⟨(xS_xS _ L s s).symm, fun j hj o => (xS_o o).trans (nS_o (by omega)), fun j hj => ?_, ?_, ?_, ?_⟩
  · have hj' : S.1 + k ≤ j := hj
    exact (xS_o (Ot_lt A (by omega))).trans (nS_o (by omega))
  · show S.1 ≤ S.1 + k; omega
  · show S.1 + k ≤ _; omega
  · show S.2.1 + m ≤ _; omega
theorem P_packing {S : pS} {L : xA} {s τ : rT} {m n q : Nat} {l : List Nat} (I : Iv S L s τ m n q l) (hd : RD s τ) : Pd m_Y_packing m_R_packing [] S := by
  have I' := I; obtain ⟨D, A, hx, hr, ho, ⟨C, Cr, ⟨q1, q2, q3⟩, hy, hdy, hdk, xl, rl, hb1, hb2⟩, ⟨⟨tk, k1, k2, k3⟩, tb, tf, tr⟩, ⟨e48, hsc⟩, rc⟩ := I'; have C' := C; have Cr' := Cr; obtain ⟨hm, h8, hn, h6⟩ := C'; obtain ⟨hm', -, hn', -⟩ := Cr'
  obtain ⟨Y, y1, y2, y3, y4⟩ := hy
  have hD : ∀ k, k < q → (s.2 14 k).toNatClampNeg ≤ 400 ∧ s.2 14 k = Int32.ofNat (s.2 14 k).toNatClampNeg ∧ τ.2 39 k = Int32.ofNat (s.2 14 k).toNatClampNeg := fun k hk => by
    obtain ⟨j, j1, j2, j3, j4⟩ := hdy k hk
    rw [j3, ii_tn (by omega)]; exact ⟨j2, rfl, j4⟩
  obtain ⟨wy, bs, a1, a2, a3, a4, a5⟩ := c_P_new 187 (b := S) (s := s) D (fun j hj => Ot_lt A hj) q3 y2 (fun k => (s.2 14 k).toNatClampNeg) (fun k hk => (hD k hk).1) q1 y3 (fun k hk => (hD k hk).2.1)
  have ya : vcall 200 m_Y_packing [.ref 0] S = some (.inl (some (.int (if fwN (fun k => (s.2 14 k).toNatClampNeg) Y q 9 0 ≤ 8 then Int32.ofNat (fwN (fun k => (s.2 14 k).toNatClampNeg) Y q 9 0) else -1))), kS (S.1 + 4, S.2.1 + 29, S.2.2) L s S.1 (fun _ => 0) wy bs (fwN (fun k => (s.2 14 k).toNatClampNeg) Y q 9 0)) := by
    have h0 : vcall 200 m_Y_packing [.ref 0] (xS S L s) = _ := (vY D rfl).trans (B_Y_packing_0 _ _ _)
    rw [← hx] at h0
    refine h0.trans ?_
    have g3 : gFr (pNew S (cO 3 [.null, .null, .null, .null, .int 0]) 5) 0 10 3 = some (aU L) := by
      have := (x0_gF (b := S) (s := s) D).2.2.2.1
      rw [← hx] at this
      rw [gFr_nw (by have := A.1; omega)]; exact this
    rw [← hx] at a3
    have a3' : vcall 199 m_Pk_init [.ref S.1, .ref (aU L)] (pNew S (cO 3 [.null, .null, .null, .null, .int 0]) 5) = _ := a3
    have a4' : vcall 199 m_Pk_search [.ref S.1] (kS (S.1 + 4, S.2.1 + 29, S.2.2) L s S.1 (fun _ => 0) (fun _ => 0) (fun _ => 0) 9) = _ := a4
    have a5' : vcall 199 m_Pk_isFound [.ref S.1] (kS (S.1 + 4, S.2.1 + 29, S.2.2) L s S.1 (fun _ => 0) wy bs (fwN (fun k => (s.2 14 k).toNatClampNeg) Y q 9 0)) = _ := a5
    rw [g3, obs, a3', kC0_v, a4', kC0_v, a5', kC1_v]
    by_cases g : fwN (fun k => (s.2 14 k).toNatClampNeg) Y q 9 0 ≤ 8
    · rw [if_pos g, if_neg (by decide), (kS_g (fun i _ => Ot_lt A (by omega))).2.2.2.2, obs, if_pos g]
    · rw [if_neg g, if_pos rfl, if_neg g]
  exact P_d I hd (Go.k (k := 4) (m := 29) A (by decide) (by decide)) (Kf.rf _ _ s) ya (fun b => R_packing 187 b τ q3 y2 _ (fun k hk => (hD k hk).1) q2 y4 (fun k hk => (hD k hk).2.2))
theorem P_packed {S : pS} {L : xA} {s τ : rT} {m n q : Nat} {l : List Nat} (I : Iv S L s τ m n q l) (hd : RD s τ) (k : Int32) : Pr m_L_packed m_R_packed [.int k] S := by
  have I' := I; obtain ⟨D, A, hx, hr, ho, ⟨C, Cr, ⟨q1, q2, q3⟩, hy, hdy, hdk, xl, rl, hb1, hb2⟩, ⟨⟨tk, k1, k2, k3⟩, tb, tf, tr⟩, ⟨e48, hsc⟩, rc⟩ := I'; have C' := C; have Cr' := Cr; obtain ⟨hm, h8, hn, h6⟩ := C'; obtain ⟨hm', -, hn', -⟩ := Cr'
  have hL := (cR (d := 199) (M := m_L_packed) (as := [.ref 0, .int k, .ref 58]) (s := S)).trans (B_L_packed_0 _ _ _ _ _)
  by_cases h0_ : 0 ≤ k ∧ k < Int32.ofNat q
  · obtain ⟨k, lk, rfl⟩ := ii_ex (by omega) h0_.1 h0_.2
    obtain ⟨Y, y1, y2, y3, y4⟩ := hy
    have hD : ∀ k, k < q → (s.2 14 k).toNatClampNeg ≤ 400 ∧ s.2 14 k = Int32.ofNat (s.2 14 k).toNatClampNeg ∧ τ.2 39 k = Int32.ofNat (s.2 14 k).toNatClampNeg := fun k hk => by
      obtain ⟨j, j1, j2, j3, j4⟩ := hdy k hk
      rw [j3, ii_tn (by omega)]; exact ⟨j2, rfl, j4⟩
    have ya : ∀ d, ∃ S1, Go S S1 L s ∧ vcall (d + 13) m_Y_packed [.ref 0, .int (Int32.ofNat k)] S = some (.inl (some (.int (if fwN (fun k => (s.2 14 k).toNatClampNeg) Y q 9 0 ≤ 8 then Int32.ofNat (gp (fun k => (s.2 14 k).toNatClampNeg) Y (fwN (fun k => (s.2 14 k).toNatClampNeg) Y q 9 0) q 0 (fun _ => 0) k) else -1))), S1) := fun d => by
      obtain ⟨wy, bs, a1, a2, a3, a4, a5⟩ := c_P_new d (b := S) (s := s) D (fun j hj => Ot_lt A hj) q3 y2 (fun k => (s.2 14 k).toNatClampNeg) (fun k hk => (hD k hk).1) q1 y3 (fun k hk => (hD k hk).2.1)
      refine ⟨kS (S.1 + 4, S.2.1 + 29, S.2.2) L s S.1 (fun _ => 0) wy bs (fwN (fun k => (s.2 14 k).toNatClampNeg) Y q 9 0), Go.k (k := 4) (m := 29) A (by decide) (by decide), ?_⟩
      have h0 : vcall (d + 13) m_Y_packed [.ref 0, .int (Int32.ofNat k)] (xS S L s) = _ := (vY D rfl).trans (B_Y_packed_0 _ _ _ _)
      rw [nQ_ok (d + 10) D q1 q3 lk, kC0_v, ← hx] at h0
      refine h0.trans ?_
      have g3 : gFr (pNew S (cO 3 [.null, .null, .null, .null, .int 0]) 5) 0 10 3 = some (aU L) := by
        have := (x0_gF (b := S) (s := s) D).2.2.2.1
        rw [← hx] at this
        rw [gFr_nw (by have := A.1; omega)]; exact this
      rw [← hx] at a3
      rw [g3, obs, a3, kC0_v, a4, kC0_v, a5, kC1_v]
      by_cases g : fwN (fun k => (s.2 14 k).toNatClampNeg) Y q 9 0 ≤ 8
      · rw [if_pos g, if_neg (by decide), (kS_g (fun i _ => Ot_lt A (by omega))).2.2.2.1, obs, (kS_gI (fun i _ => Ot_lt A (by omega)) (show k < 8 by omega)).2, obs, if_pos g, a1 g k lk]
      · rw [if_neg g, if_pos rfl, if_neg g]
    obtain ⟨S1, G, e⟩ := ya 186
    exact P_v I hd hL G (Kf.rf _ _ s) e (fun b => R_packed 187 b τ q3 y2 _ (fun k hk => (hD k hk).1) q2 y4 (fun k hk => (hD k hk).2.2) k lk)
  · have ya : ∀ d, vcall (d + 4) m_Y_packed [.ref 0, .int k] (xS S L s) = xE0 S L s := fun d => by
      refine (vY D rfl).trans ((B_Y_packed_0 _ _ _ _).trans ?_)
      rw [nQ_no (d + 1) D (by rw [q1]; exact h0_)]
      rfl
    have ra : ∀ d b, vcall (d + 3) m_R_packed [.ref 30, .int k] (mS b τ) = some (.inl (some (.int 0)), mS b (rN τ 1 0)) := fun d b => by
      refine (vR rfl).trans ((B_R_packed_0 _ _ _ _).trans ?_)
      have hz_q : (wF τ 0 0).1 24 = Int32.ofNat q := q2
      rw [← rg_m (by omega)] at h0_
      simp only [m_pF, obs, m_gF, hz_q, rw_no (d + 1) _ h0_, rm_n0 (d + 1) (show (1 : Int32) ≠ 0 by decide), kC1_v, i10, eq_self, if_true, if_false, not_true_eq_false, not_false_eq_true]
    exact P_e (k := 1) I hd hL (fun _ _ => rfl) (by decide) (ya 195) (ra 197)
