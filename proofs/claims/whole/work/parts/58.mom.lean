/-! MOMENTS: new scenes, moments; undo, image, restore -/
theorem pSet_id {S : pS} {q : Nat} {c : pC} (h : S.2.2 q = some c) : pSet S q c = S := by
  refine congrArg (fun z => (S.1, S.2.1, z)) (funext fun j => ?_)
  by_cases e : j = q
  · subst e; rw [if_pos rfl]; exact h.symm
  · rw [if_neg e]
theorem fillL (d : Nat) (S : pS) (q : Nat) {n : Nat} (x : Int32) (hn : n < 2147483648) : ∀ (j k : Nat), k + j = n → ∀ f, den d m_J_fill 5 [.ref q, .int x, .int (Int32.ofNat k), .int (Int32.ofNat n)] [] (pSet S q (cI n f)) = some (.inl none, pSet S q (cI n (fun i => if k ≤ i ∧ i < n then x else f i))) := by
  intro j
  induction j with
  | zero =>
    intro k hk f
    rw [B_J_fill_5, if_pos (by rw [ii_le (by omega) (by omega)]; omega)]
    refine congrArg (fun z => some (Sum.inl none, pSet S q (cI n z))) (funext fun i => ?_)
    rw [if_neg (by omega)]
  | succ j ih =>
    intro k hk f
    rw [B_J_fill_5, if_neg (by rw [ii_le (by omega) (by omega)]; omega), pI_at (pSet_e S q _) (by omega) hn, obs, pSet_2, ii_1, ih (k + 1) (by omega)]
    refine congrArg (fun z => some (Sum.inl none, pSet S q (cI n z))) (funext fun i => ?_)
    by_cases e : i = k
    · subst e; rw [if_neg (by omega), if_pos (by omega), upd_s]
    · by_cases g : k + 1 ≤ i ∧ i < n
      · rw [if_pos g, if_pos (by omega)]
      · rw [if_neg g, if_neg (by omega), upd_n _ _ e]
theorem c_fill (d : Nat) {S : pS} {q n : Nat} {f : Nat → Int32} (h : S.2.2 q = some (cI n f)) (hn : n < 2147483648) (x : Int32) : call (d + 1) m_J_fill [.ref q, .int x] S = some (.inl none, pSet S q (cI n (fun i => if i < n then x else f i))) := by
  refine cR.trans ((B_J_fill_0 _ _ _ _).trans ?_)
  rw [gN_at h, obs]
  have e := fillL d S q x hn n 0 (by omega) f
  rw [pSet_id h] at e
  refine e.trans ?_
  refine congrArg (fun z => some (Sum.inl none, pSet S q (cI n z))) (funext fun i => ?_)
  by_cases g : i < n
  · rw [if_pos (by omega), if_pos g]
  · rw [if_neg (by omega), if_neg g]
/-- the cells of a scene -/
def scL (a u : Nat) (v : Nat → Int32) : List pC := [cO 5 [.ref u, .ref (a + 1), .ref (a + 2), .ref (a + 3), .ref (a + 4), .ref (a + 5), .int (v 75), .int (v 74)], cI 8 (cut 8 fun i => v (0 + i)), cI 6 (cut 6 fun i => v (8 + i)), cI 6 (cut 6 fun i => v (14 + i)), cI 6 (cut 6 fun i => v (20 + i)), cI 48 (cut 48 fun i => v (26 + i))]
theorem scL_i (a u : Nat) (v : Nat → Int32) {i : Nat} (hi : i < 6) : (scL a u v)[i]? = scC a u v i := by
  have : i = 0 ∨ i = 1 ∨ i = 2 ∨ i = 3 ∨ i = 4 ∨ i = 5 := by omega
  rcases this with rfl | rfl | rfl | rfl | rfl | rfl <;> rfl
/-- a scene at its beginning -/
def sc0 (f : Nat → Int32) (x : Int32) : Nat → Int32 := fun i => if i < 8 then f i else if i < 14 then -1 else if i = 74 then x else 0
theorem c_Sc_new (d : Nat) {N m u : Nat} {H : pH} {f : Nat → Int32} {x : Int32} {fs : List Value} (hu : u + 1 < N) (h0 : H u = some (cO 7 fs)) (hf : fs[0]? = some (.ref (u + 1))) (h8 : fs[8]? = some (.int x)) (h1 : H (u + 1) = some (cI 8 (cut 8 f))) : vcall (d + 2) m_Sc_init [.ref N, .ref u] (aL N m [cO 5 [.null, .null, .null, .null, .null, .null, .int 0, .int 0]] H) = some (.inl none, aL N (m + 74) (scL N u (sc0 f x)) H) := by
  refine (aL_v (c := 5) (N := N) rfl).trans ((B_Sc_init_0 _ _ _ _).trans ?_)
  simp (disch := simp) only [aL_new, aL_F, aL_g, aL_1, obs, List.cons_append, List.nil_append, List.length_cons, List.length_nil, Nat.zero_add, Nat.reduceAdd, List.set_cons_zero, List.set_cons_succ, Nat.add_zero, Nat.add_assoc]
  have e0 : ∀ m cs, gFr (aL N m cs H) u 7 0 = some (u + 1) := fun m cs => gFr_at ((aL_o (by omega)).trans h0) hf
  have e8 : ∀ m cs, gFi (aL N m cs H) u 7 8 = some x := fun m cs => gFi_at ((aL_o (by omega)).trans h0) h8
  have p : ∀ m o l, pCp (aL N m (o :: cI 8 (fun _ => 0) :: l) H) (u + 1) 0 (N + 1) 0 8 = some (aL N m (o :: cI 8 (cut 8 f) :: l) H) := fun m o l => by
    refine (pCp_at (k := 8) ((aL_o (by omega)).trans h1) (aL_i (i := 1) rfl) (by decide) (by decide) (by decide)).trans ?_
    rw [aL_set (i := 1) (by simp)]
    refine congrArg (fun z => some (aL N m (o :: cI 8 z :: l) H)) (funext fun i => ?_)
    unfold va_cpy
    by_cases g : i < 8
    · rw [if_pos (by omega), cut_lt _ (by omega), cut_lt _ g, show 0 + (i - 0) = i by omega]
    · rw [if_neg (by omega)]; unfold cut; rw [if_neg g]
  have q : ∀ m o p l, call d.succ m_J_fill [.ref (N + 2), .int (-1)] (aL N m (o :: p :: cI 6 (fun _ => 0) :: l) H) = some (.inl none, aL N m (o :: p :: cI 6 (cut 6 fun _ => -1) :: l) H) := fun m o p l => by
    refine (c_fill d (aL_i (i := 2) rfl) (by decide) (-1)).trans ?_
    rw [aL_set (i := 2) (by simp)]
    rfl
  have n1 : ∀ m a q l cs, gFr (aL N m (cO 5 (a :: .ref q :: l) :: cs) H) N 5 1 = some q := fun m a q l cs => aL_g rfl
  have n2 : ∀ m a b q l cs, gFr (aL N m (cO 5 (a :: b :: .ref q :: l) :: cs) H) N 5 2 = some q := fun m a b q l cs => aL_g rfl
  simp (disch := simp) only [e0, e8, n1, n2, p, q, kC0_v, aL_new, aL_F, aL_g, aL_1, obs, List.cons_append, List.nil_append, List.length_cons, List.length_nil, Nat.zero_add, Nat.reduceAdd, List.set_cons_zero, List.set_cons_succ, Nat.add_zero, Nat.add_assoc]
  refine congrArg (fun z => some (Sum.inl none, aL N (m + 74) z H)) ?_
  unfold scL
  refine congr (congrArg List.cons ?_) (congr (congrArg List.cons ?_) (congr (congrArg List.cons ?_) (congr (congrArg List.cons ?_) (congr (congrArg List.cons ?_) (congr (congrArg List.cons ?_) rfl)))))
  · rfl
  · exact congrArg (cI 8) (cut_eq (fun i hi => by unfold sc0; rw [if_pos (by omega), Nat.zero_add]))
  · exact congrArg (cI 6) (cut_eq (fun i hi => by unfold sc0; rw [if_neg (by omega), if_pos (by omega)]))
  · exact congrArg (cI 6) ((cut_0 (n := 6)).symm.trans (cut_eq (fun i hi => by unfold sc0; rw [if_neg (by omega), if_neg (by omega), if_neg (by omega)])))
  · exact congrArg (cI 6) ((cut_0 (n := 6)).symm.trans (cut_eq (fun i hi => by unfold sc0; rw [if_neg (by omega), if_neg (by omega), if_neg (by omega)])))
  · exact congrArg (cI 48) ((cut_0 (n := 48)).symm.trans (cut_eq (fun i hi => by unfold sc0; rw [if_neg (by omega), if_neg (by omega), if_neg (by omega)])))
theorem aL_nw {N m : Nat} {cs : List pC} {H : pH} {u : Nat} {w : Nat → Int32} (h : cs.length = 6) : nS (aL N m cs H) N 6 (scC N u w) = aL N m (scL N u w) H := by
  have e : (scL N u w).length = 6 := rfl
  unfold nS aL
  rw [h, e]
  refine congrArg (fun z => (N + 6, m, z)) (funext fun j => ?_)
  dsimp only
  by_cases g : N ≤ j
  · rw [if_pos g, if_pos g]
    by_cases g2 : j < N + 6
    · rw [if_pos ⟨g, g2⟩, scL_i _ _ _ (by omega)]
      have : j - N = 0 ∨ j - N = 1 ∨ j - N = 2 ∨ j - N = 3 ∨ j - N = 4 ∨ j - N = 5 := by omega
      rcases this with h | h | h | h | h | h <;> rw [h] <;> rfl
    · rw [if_neg (by omega), List.getElem?_eq_none (by omega), List.getElem?_eq_none (by omega)]
  · rw [if_neg g, if_neg g, if_neg (by omega)]
def moL (L : xA) (s : rT) (N : Nat) : List pC := scL N (aU L) (s.2 0) ++ [cO 2 [.ref N, va_rf (aZ L), .int (s.1 9)]]
theorem x0_gZ {b : pS} {L : xA} {s : rT} (D : Dj L) : gFv (xS b L s) 0 10 8 = some (aZ L) := by
  unfold gFv gO
  rw [x0_0 D]
  cases h : aZ L <;> rfl
theorem aL_x {b : pS} {L : xA} {s : rT} {m : Nat} {cs : List pC} {j : Nat} (h : j < b.1) : (aL b.1 m cs (xS b L s).2.2).2.2 j = (xS b L s).2.2 j := aL_o (Or.inl h)
theorem gFr_e {S S' : pS} {q c k : Nat} (h : S'.2.2 q = S.2.2 q) : gFr S' q c k = gFr S q c k := by unfold gFr gO; rw [h]
theorem gFi_e {S S' : pS} {q c k : Nat} (h : S'.2.2 q = S.2.2 q) : gFi S' q c k = gFi S q c k := by unfold gFi gO; rw [h]
theorem gFv_e {S S' : pS} {q c k : Nat} (h : S'.2.2 q = S.2.2 q) : gFv S' q c k = gFv S q c k := by unfold gFv gO; rw [h]
/-- the scene that is, kept with what could be undone -/
theorem c_Y_momentNow (d : Nat) {b : pS} {L : xA} {s : rT} (D : Dj L) (A : AB b L) : vcall (d + 4) m_Y_momentNow [.ref 0] (xS b L s) = some (.inl (some (.ref (b.1 + 6))), xS (aL b.1 (b.2.1 + 85) (moL L s b.1) b.2.2) L s) := by
  have o : ∀ j, b.1 ≤ j → Ot L j := fun j hj => Ot_lt A hj
  obtain ⟨a0, a1, a2, a3, a4, a5⟩ := A
  refine (vY D rfl).trans ((B_Y_momentNow_0 _ _ _).trans ?_)
  have g3 : ∀ m cs, gFr (aL b.1 m cs (xS b L s).2.2) 0 10 3 = some (aU L) := fun m cs => (gFr_e (S := xS b L s) (aL_x (by omega))).trans (x0_gF D).2.2.2.1
  have g6 : ∀ m cs, gFr (aL b.1 m cs (xS b L s).2.2) 0 10 6 = some (aP L) := fun m cs => (gFr_e (S := xS b L s) (aL_x (by omega))).trans (x0_gF D).2.2.2.2.2.2.1
  have g8 : ∀ m cs, gFv (aL b.1 m cs (xS b L s).2.2) 0 10 8 = some (aZ L) := fun m cs => (gFv_e (S := xS b L s) (aL_x (by omega))).trans (x0_gZ D)
  have g9 : ∀ m cs, gFi (aL b.1 m cs (xS b L s).2.2) 0 10 9 = some (s.1 9) := fun m cs => (gFi_e (S := xS b L s) (aL_x (by omega))).trans (x0_gF D).2.2.2.2.2.2.2.2.1
  have e0 : ∀ x k, pNew (xS b L s) x k = aL b.1 (b.2.1 + k) [x] (xS b L s).2.2 := fun x k => aL_0 (xS b L s) x k
  have e1 := c_Sc_new (d + 1) (N := b.1) (m := b.2.1 + 8) (u := aU L) (H := (xS b L s).2.2) (f := s.2 11) (x := s.1 48) (by omega) (xu_0 D) rfl rfl (xu_1 D)
  have e2 := c_take (d + 2) (S := aL b.1 (b.2.1 + 8 + 74) (scL b.1 (aU L) (sc0 (s.2 11) (s.1 48))) (xS b L s).2.2) (a := b.1) (c := aP L) (u := aU L) (u' := aU L) (v := sc0 (s.2 11) (s.1 48)) (w := s.2 0) (fun i hi => (by
    have := scL_i b.1 (aU L) (sc0 (s.2 11) (s.1 48)) hi
    have h6 : (scL b.1 (aU L) (sc0 (s.2 11) (s.1 48))).length = 6 := rfl
    obtain ⟨x, hx⟩ : ∃ x, (scL b.1 (aU L) (sc0 (s.2 11) (s.1 48)))[i]? = some x := ⟨_, List.getElem?_eq_getElem (by omega)⟩
    rw [← this, hx]; exact aL_i hx)) (fun i hi => (aL_x (by omega)).trans (sn_at (SN_p D) hi)) (Or.inl a1)
  rw [aL_nw rfl] at e2
  have e3 : ∀ z : Option Nat, vcall (d + 3) m_Mo_init [.ref (b.1 + 6), .ref b.1, va_rf z, .int (s.1 9)] (aL b.1 (b.2.1 + 85) (scL b.1 (aU L) (s.2 0) ++ [cO 2 [.null, .null, .int 0]]) (xS b L s).2.2) = some (.inl none, aL b.1 (b.2.1 + 85) (scL b.1 (aU L) (s.2 0) ++ [cO 2 [.ref b.1, va_rf z, .int (s.1 9)]]) (xS b L s).2.2) := fun z => by
    have r : rcv m_Mo_init [.ref (b.1 + 6), .ref b.1, va_rf z, .int (s.1 9)] (aL b.1 (b.2.1 + 85) (scL b.1 (aU L) (s.2 0) ++ [cO 2 [.null, .null, .int 0]]) (xS b L s).2.2) = true := isO_at (aL_i (i := 6) rfl)
    have f : ∀ fs k v, k < fs.length → pF (aL b.1 (b.2.1 + 85) (scL b.1 (aU L) (s.2 0) ++ [cO 2 fs]) (xS b L s).2.2) (b.1 + 6) 2 k v = some (aL b.1 (b.2.1 + 85) (scL b.1 (aU L) (s.2 0) ++ [cO 2 (fs.set k v)]) (xS b L s).2.2) := fun fs k v hk => by
      rw [pF_at (aL_i (i := 6) rfl) hk]
      exact congrArg some (aL_set (cs := scL b.1 (aU L) (s.2 0) ++ [cO 2 fs]) (i := 6) (show 6 < 7 by decide) _)
    have dn : vcall (d + 3) m_Mo_init [.ref (b.1 + 6), .ref b.1, va_rf z, .int (s.1 9)] (aL b.1 (b.2.1 + 85) (scL b.1 (aU L) (s.2 0) ++ [cO 2 [.null, .null, .int 0]]) (xS b L s).2.2) = den (d + 2) m_Mo_init 0 (ent m_Mo_init [.ref (b.1 + 6), .ref b.1, va_rf z, .int (s.1 9)]) [] (aL b.1 (b.2.1 + 85) (scL b.1 (aU L) (s.2 0) ++ [cO 2 [.null, .null, .int 0]]) (xS b L s).2.2) := by
      unfold vcall
      rw [r]
      rfl
    rw [dn]
    cases z with
    | none =>
      refine (B_Mo_init_0n2 _ _ _ _ _).trans ?_
      rw [f _ _ _ (by decide), obs, f _ _ _ (show 1 < 3 by decide), obs, f _ _ _ (show 2 < 3 by decide), obs]; rfl
    | some z =>
      refine (B_Mo_init_0 _ _ _ _ _ _).trans ?_
      rw [f _ _ _ (by decide), obs, f _ _ _ (show 1 < 3 by decide), obs, f _ _ _ (show 2 < 3 by decide), obs]; rfl
  rw [e0, g3, obs, xS_1, e1, kC0_v, g6, obs, e2, kC0_v, aL_new, g8, obs]
  have e6 : (aL b.1 (b.2.1 + 8 + 74) (scL b.1 (aU L) (s.2 0)) (xS b L s).2.2).1 = b.1 + 6 := rfl
  rw [e6, g9, obs, Nat.add_assoc, Nat.add_assoc]
  have e4 := e3 (aZ L)
  have fin : aL b.1 (b.2.1 + 85) (scL b.1 (aU L) (s.2 0) ++ [cO 2 [.ref b.1, va_rf (aZ L), .int (s.1 9)]]) (xS b L s).2.2 = xS (aL b.1 (b.2.1 + 85) (moL L s b.1) b.2.2) L s := xS_aL o _ _
  rw [fin] at e4
  cases hz : aZ L with
  | none => rw [hz] at e4; show kC0 _ _ _ = _; erw [e4]; rfl
  | some z => rw [hz] at e4; show kC0 _ _ _ = _; erw [e4]; rfl
/-- what can be undone, the images: set -/
def sL (L : xA) (z : Option Nat) (im : Nat → Option Nat) : xA := (L.1, L.2.1, L.2.2.1, L.2.2.2.1, L.2.2.2.2.1, z, im)
theorem sL_D {L : xA} {z : Option Nat} {im : Nat → Option Nat} (D : Dj L) : Dj (sL L z im) := D
theorem x0_f8 {b : pS} {L : xA} {s : rT} (D : Dj L) (z : Option Nat) : pF (xS b L s) 0 10 8 (va_rf z) = some (xS b (sL L z (aI L)) s) := by
  rw [pF_at (x0_0 D) (by show 8 < 14; decide)]
  unfold xS
  refine congrArg some ((yS_sf (i := 0) D (by decide) _).trans ?_)
  refine congrArg (yS b L _ _ _ _ _) (funext fun j => ?_)
  rcases j with _ | _ | _ | _ | _ | _ | _ | j <;> rfl
theorem x6_0 {b : pS} {L : xA} {s : rT} (D : Dj L) : (xS b L s).2.2 6 = some (cQ 3 (aI L)) := yS_f (i := 6) D (by decide)
theorem x6_g {b : pS} {L : xA} {s : rT} (D : Dj L) {k : Nat} (hk : k < 3) : gQ (xS b L s) 6 (Int32.ofNat k) = some (aI L k) := by
  unfold gQ
  rw [x6_0 D]
  show (if _ then _ else _) = _
  rw [if_neg (by rw [ii_nn (by omega), ii_tn (by omega), false_or]; omega), ii_tn (by omega)]
theorem x6_s {b : pS} {L : xA} {s : rT} (D : Dj L) (im : Nat → Option Nat) : pSet (xS b L s) 6 (cQ 3 im) = xS b (sL L (aZ L) im) s := by
  unfold xS
  refine (yS_sf (i := 6) D (by decide) _).trans ?_
  refine congrArg (yS b L _ _ _ _ _) (funext fun j => ?_)
  rcases j with _ | _ | _ | _ | _ | _ | _ | j <;> rfl
theorem x6_n {b : pS} {L : xA} {s : rT} (D : Dj L) {k : Nat} (hk : k < 3) : pQ (xS b L s) 6 (Int32.ofNat k) none = some (xS b (sL L (aZ L) (va_up (aI L) k none)) s) := by
  unfold pQ
  rw [x6_0 D]
  show (if _ then _ else _) = _
  rw [if_neg (by rw [ii_nn (by omega), ii_tn (by omega), false_or]; omega), ii_tn (by omega)]
  exact congrArg some (x6_s D _)
theorem x6_p {b : pS} {L : xA} {s : rT} (D : Dj L) {k a : Nat} (hk : k < 3) {fs : List Value} (h : (xS b L s).2.2 a = some (cO 2 fs)) : pQ (xS b L s) 6 (Int32.ofNat k) (some a) = some (xS b (sL L (aZ L) (va_up (aI L) k (some a))) s) := by
  have g : gO (xS b L s) a 2 = some fs := by unfold gO; rw [h]; rfl
  unfold pQ
  rw [x6_0 D]
  show (if _ then _ else _) = _
  rw [if_neg (by rw [ii_nn (by omega), ii_tn (by omega), false_or]; omega), ii_tn (by omega)]
  dsimp only
  rw [g]
  exact congrArg some (x6_s D _)
theorem Ot_dj {L : xA} {c : Nat} (h : ∀ i, i < 6 → Ot L (c + i)) : dj c 6 (aP L) 6 := by
  have h0 := (h 0 (by decide)).2.1
  have h5 := (h 5 (by decide)).2.1
  unfold dj; omega
/-- back to a moment -/
theorem c_Y_goBack (d : Nat) {b : pS} {L : xA} {s : rT} (D : Dj L) {a c k : Nat} {z : Option Nat} {v : Nat → Int32} (oa : Ot L a) (oc : ∀ i, i < 6 → Ot L (c + i)) (ha : b.2.2 a = some (cO 2 [.ref c, va_rf z, .int (Int32.ofNat k)])) (hc : ∀ i, i < 6 → b.2.2 (c + i) = scC c (aU L) v i) : vcall (d + 2) m_Y_goBack [.ref 0, .ref a] (xS b L s) = some (.inl none, xS b (sL L z (aI L)) (wF (wF (wR s 0 v) 9 (Int32.ofNat k)) 11 0)) := by
  refine (vY D rfl).trans ((B_Y_goBack_0 _ _ _ _).trans ?_)
  have g6 := (x0_gF (b := b) (s := s) D).2.2.2.2.2.2.1
  have ha' : ∀ (L' : xA) (s : rT), Ot L' a → (xS b L' s).2.2 a = some (cO 2 [.ref c, va_rf z, .int (Int32.ofNat k)]) := fun L' s o => (xS_o o).trans ha
  have t := c_take d (S := xS b L s) (a := aP L) (c := c) (u := aU L) (u' := aU L) (v := s.2 0) (w := v) (fun i hi => sn_at (SN_p D) hi) (fun i hi => (xS_o (oc i hi)).trans (hc i hi)) (Ot_dj oc)
  rw [xS_nP] at t
  have gv : gFv (xS b L (wR s 0 v)) a 2 1 = some z := by
    unfold gFv gO; rw [ha' _ _ oa]; cases z <;> rfl
  rw [g6, obs, gFr_at (ha' _ _ oa) rfl, obs, t, kC0_v, gv, obs]
  have o' : Ot (sL L z (aI L)) a := oa
  have f8 := x0_f8 (b := b) (s := wR s 0 v) D z
  have g2 : gFi (xS b (sL L z (aI L)) (wR s 0 v)) a 2 2 = some (Int32.ofNat k) := gFi_at (ha' _ _ o') rfl
  cases z with
  | none => show (pF _ _ _ _ (va_rf none)).bind _ = _; rw [f8, obs, g2, obs, (x0_pF (sL_D D) _).1, obs, (x0_pF (sL_D D) _).2.2.1, obs]
  | some z => show (pF _ _ _ _ (va_rf (some z))).bind _ = _; rw [f8, obs, g2, obs, (x0_pF (sL_D D) _).1, obs, (x0_pF (sL_D D) _).2.2.1, obs]
theorem wR_id (τ : rT) (a : Nat) : wR τ a (τ.2 a) = τ := by
  refine congrArg (fun z => (τ.1, z)) (funext fun c => ?_)
  by_cases h : c = a
  · rw [if_pos h, h]
  · rw [if_neg h]
theorem undoL (d : Nat) (b : pS) (τ : rT) {c : Nat} (hc : c ≤ 15) (h : τ.1 37 = Int32.ofNat c) : ∀ (j k : Nat), k + j = 76 → ∀ g, den d m_R_undo 26 [.ref 30, .int (Int32.ofNat k)] [] (mS b (wR τ 48 g)) = some (.inl (some (.int (Int32.ofNat c))), mS b (wF (wR τ 48 (fun i => if k ≤ i ∧ i < 76 then τ.2 50 (76 * c + i) else g i)) 38 0)) := by
  intro j
  induction j with
  | zero =>
    intro k hk g
    have : k = 76 := by omega
    subst this
    rw [B_R_undo_26, if_pos (by decide)]
    simp (disch := omega) only [m_gF, m_gI, m_pI, m_gIl, m_pIl, ii_m1, ii_s1, m_pF, obs, wF_1, wF_2, wA_1, wA_2, wR_1, wR_2, Nat.reduceEqDiff, Nat.reduceAdd, Nat.reduceMul, if_true, if_false, ite_true, ite_false, ii_la, ii_al, ii_lm, ii_ml, ii_add, ii_mul, ii_1, ii_le, ii_lt, ii_c1, ii_c2, ii_c3, ii_c4, ii_c5, ii_n1, ii_nn, kC0_v, kC1_v, kC2_v, kC3_v, kC0_x, kC1_x, kC2_x, not_true_eq_false, not_false_eq_true, ne_eq, h]
    refine congrArg (fun z => some (Sum.inl (some (Value.int (Int32.ofNat c))), mS b (wF (wR τ 48 z) 38 0))) (funext fun i => ?_)
    rw [if_neg (by omega)]
  | succ j ih =>
    intro k hk g
    have lt : ¬ ((76 : Int32) ≤ Int32.ofNat k) := by
      have : ((Int32.ofNat 76) ≤ Int32.ofNat k) = (76 ≤ k) := ii_le (by omega) (by omega)
      show ¬ (Int32.ofNat 76 ≤ Int32.ofNat k)
      rw [this]; omega
    rw [B_R_undo_26, if_neg lt]
    simp (disch := omega) only [m_gF, m_gI, m_pI, m_gIl, m_pIl, ii_m1, ii_s1, m_pF, obs, wF_1, wF_2, wA_1, wA_2, wR_1, wR_2, Nat.reduceEqDiff, Nat.reduceAdd, Nat.reduceMul, if_true, if_false, ite_true, ite_false, ii_la, ii_al, ii_lm, ii_ml, ii_add, ii_mul, ii_1, ii_le, ii_lt, ii_c1, ii_c2, ii_c3, ii_c4, ii_c5, ii_n1, ii_nn, kC0_v, kC1_v, kC2_v, kC3_v, kC0_x, kC1_x, kC2_x, not_true_eq_false, not_false_eq_true, ne_eq, h]
    rw [wA_wR, ih (k + 1) (by omega)]
    refine congrArg (fun z => some (Sum.inl (some (Value.int (Int32.ofNat c))), mS b (wF (wR τ 48 z) 38 0))) (funext fun i => ?_)
    by_cases e : i = k
    · subst e; rw [if_neg (by omega), if_pos (by omega), upd_s]
    · by_cases g : k + 1 ≤ i ∧ i < 76
      · rw [if_pos g, if_pos (by omega)]
      · rw [if_neg g, if_neg (by omega), upd_n _ _ e]
theorem R_undo (d : Nat) (b : pS) (τ : rT) {c : Nat} {v : Nat → Int32} (hc : c ≤ 15) (h : τ.1 37 = Int32.ofNat (c + 1)) (hv : ∀ i, i < 76 → τ.2 50 (76 * c + i) = v i) : vcall (d + 1) m_R_undo [.ref 30] (mS b τ) = some (.inl (some (.int (Int32.ofNat c))), mS b (wF (wR (wF (wF τ 0 0) 37 (Int32.ofNat c)) 48 v) 38 0)) := by
  refine (vR rfl).trans ((B_R_undo_0 _ _ _).trans ?_)
  simp (disch := omega) only [m_gF, m_gI, m_pI, m_gIl, m_pIl, ii_m1, ii_s1, m_pF, obs, wF_1, wF_2, wA_1, wA_2, wR_1, wR_2, Nat.reduceEqDiff, Nat.reduceAdd, Nat.reduceMul, if_true, if_false, ite_true, ite_false, ii_la, ii_al, ii_lm, ii_ml, ii_add, ii_mul, ii_1, ii_le, ii_lt, ii_c1, ii_c2, ii_c3, ii_c4, ii_c5, ii_n1, ii_nn, kC0_v, kC1_v, kC2_v, kC3_v, kC0_x, kC1_x, kC2_x, not_true_eq_false, not_false_eq_true, ne_eq, h]
  have nz : ¬ Int32.ofNat (c + 1) = 0 := by
    have : (Int32.ofNat (c + 1) = Int32.ofNat 0) = (c + 1 = 0) := ii_eq (by omega) (by omega)
    intro e
    have e : Int32.ofNat (c + 1) = Int32.ofNat 0 := e
    rw [this] at e; omega
  have e := undoL d b (wF (wF τ 0 0) 37 (Int32.ofNat c)) hc rfl 76 0 (by omega) (τ.2 48)
  rw [show wR (wF (wF τ 0 0) 37 (Int32.ofNat c)) 48 (τ.2 48) = wF (wF τ 0 0) 37 (Int32.ofNat c) from wR_id (wF (wF τ 0 0) 37 (Int32.ofNat c)) 48] at e
  refine e.trans (congrArg (fun z => some (Sum.inl (some (Value.int (Int32.ofNat c))), z)) (mS_eq (fun k _ => rfl) (fun a h1 h2 i hi => ?_)))
  simp only [wF_2, wR_2]
  by_cases ea : a = 48
  · subst ea
    have hi : i < 76 := hi
    rw [if_pos rfl, if_pos rfl]
    show (if _ then _ else _) = _
    rw [if_pos ⟨by omega, hi⟩]; exact hv i hi
  · rw [if_neg ea, if_neg ea]
theorem R_undo0 (d : Nat) (b : pS) (τ : rT) (h : τ.1 37 = Int32.ofNat 0) : vcall (d + 1) m_R_undo [.ref 30] (mS b τ) = some (.inl (some (.int (-1))), mS b (wF τ 0 0)) := by
  refine (vR rfl).trans ((B_R_undo_0 _ _ _).trans ?_)
  simp (disch := omega) only [m_gF, m_gI, m_pI, m_gIl, m_pIl, ii_m1, ii_s1, m_pF, obs, wF_1, wF_2, wA_1, wA_2, wR_1, wR_2, Nat.reduceEqDiff, Nat.reduceAdd, Nat.reduceMul, if_true, if_false, ite_true, ite_false, ii_la, ii_al, ii_lm, ii_ml, ii_add, ii_mul, ii_1, ii_le, ii_lt, ii_c1, ii_c2, ii_c3, ii_c4, ii_c5, ii_n1, ii_nn, kC0_v, kC1_v, kC2_v, kC3_v, kC0_x, kC1_x, kC2_x, not_true_eq_false, not_false_eq_true, ne_eq, h]
/-- rows that are kept, taken back -/
theorem kInL (d : Nat) (b : pS) (τ : rT) {o n a : Nat} (h1 : 31 ≤ a) (h2 : a < 57) (hl : rLen a = n) (hn : n ≤ 1216) (ho : o + n ≤ 3879) : ∀ (j k : Nat), k + j = n → ∀ g, den d m_R_keepsRow 3 [.ref 30, .int (Int32.ofNat o), .ref a, .int (Int32.ofNat n), .int 1, .int (Int32.ofNat k)] [] (mS b (wR τ 57 g)) = some (.inl (some (.int (Int32.ofNat (o + n)))), mS b (wR τ 57 (fun i => if o + k ≤ i ∧ i < o + n then τ.2 a (i - o) else g i))) := by
  intro j
  induction j with
  | zero =>
    intro k hk g
    rw [B_R_keepsRow_3, if_pos (by rw [ii_le (by omega) (by omega)]; omega), ii_add]
    refine congrArg (fun z => some (Sum.inl (some (Value.int (Int32.ofNat (o + n)))), mS b (wR τ 57 z))) (funext fun i => ?_)
    rw [if_neg (by omega)]
  | succ j ih =>
    intro k hk g
    rw [B_R_keepsRow_3, if_neg (by rw [ii_le (by omega) (by omega)]; omega), if_neg (by decide)]
    have g1 : gI (mS b (wR τ 57 g)) a (Int32.ofNat k) = some (τ.2 a k) := by
      rw [m_gI0 h1 (by omega) hl (by omega) k (by omega), wR_2, if_neg (by omega)]
    simp (disch := omega) only [g1, m_gF, m_gI, m_pI, m_gIl, m_pIl, ii_m1, ii_s1, m_pF, obs, wF_1, wF_2, wA_1, wA_2, wR_1, wR_2, Nat.reduceEqDiff, Nat.reduceAdd, Nat.reduceMul, if_true, if_false, ite_true, ite_false, ii_la, ii_al, ii_lm, ii_ml, ii_add, ii_mul, ii_1, ii_le, ii_lt, ii_c1, ii_c2, ii_c3, ii_c4, ii_c5, ii_n1, ii_nn, kC0_v, kC1_v, kC2_v, kC3_v, kC0_x, kC1_x, kC2_x, not_true_eq_false, not_false_eq_true, ne_eq]
    rw [wA_wR, ih (k + 1) (by omega)]
    refine congrArg (fun z => some (Sum.inl (some (Value.int (Int32.ofNat (o + n)))), mS b (wR τ 57 z))) (funext fun i => ?_)
    by_cases e : i = o + k
    · subst e; rw [if_neg (by omega), if_pos (by omega), upd_s, Nat.add_sub_cancel_left]
    · by_cases g : o + (k + 1) ≤ i ∧ i < o + n
      · rw [if_pos g, if_pos (by omega)]
      · rw [if_neg g, if_neg (by omega), upd_n _ _ e]
theorem c_R_kIn (d : Nat) (b : pS) (τ : rT) {o n a : Nat} (h1 : 31 ≤ a) (h2 : a < 57) (hl : rLen a = n) (hn : n ≤ 1216) (ho : o + n ≤ 3879) : vcall (d + 1) m_R_keepsRow [.ref 30, .int (Int32.ofNat o), .ref a, .int (Int32.ofNat n), .int 1] (mS b τ) = some (.inl (some (.int (Int32.ofNat (o + n)))), mS b (wR τ 57 (fun i => if o ≤ i ∧ i < o + n then τ.2 a (i - o) else τ.2 57 i))) := by
  refine (vR rfl).trans ((B_R_keepsRow_0 _ _ _ _ _ _ _).trans ?_)
  have e := kInL d b τ h1 h2 hl hn ho n 0 (by omega) (τ.2 57)
  rw [wR_id] at e
  exact e
theorem kOutL (d : Nat) (b : pS) (τ : rT) {o n a : Nat} (h1 : 31 ≤ a) (h2 : a < 57) (hl : rLen a = n) (hn : n ≤ 1216) (ho : o + n ≤ 3879) : ∀ (j k : Nat), k + j = n → ∀ g, den d m_R_keepsRow 3 [.ref 30, .int (Int32.ofNat o), .ref a, .int (Int32.ofNat n), .int 0, .int (Int32.ofNat k)] [] (mS b (wR τ a g)) = some (.inl (some (.int (Int32.ofNat (o + n)))), mS b (wR τ a (fun i => if k ≤ i ∧ i < n then τ.2 57 (o + i) else g i))) := by
  intro j
  induction j with
  | zero =>
    intro k hk g
    rw [B_R_keepsRow_3, if_pos (by rw [ii_le (by omega) (by omega)]; omega), ii_add]
    refine congrArg (fun z => some (Sum.inl (some (Value.int (Int32.ofNat (o + n)))), mS b (wR τ a z))) (funext fun i => ?_)
    rw [if_neg (by omega)]
  | succ j ih =>
    intro k hk g
    rw [B_R_keepsRow_3, if_neg (by rw [ii_le (by omega) (by omega)]; omega), if_pos (by decide)]
    have g1 : ∀ v, pI (mS b (wR τ a g)) a (Int32.ofNat k) v = some (mS b (wA (wR τ a g) a k v)) := fun v =>
      m_pI0 h1 (by omega) hl (by omega) k v (by omega)
    have z : (57 = a) = False := eq_false (by omega)
    simp (disch := omega) only [g1, m_gF, m_gI, m_pI, m_gIl, m_pIl, ii_m1, ii_s1, m_pF, obs, wF_1, wF_2, wA_1, wA_2, wR_1, wR_2, Nat.reduceEqDiff, Nat.reduceAdd, Nat.reduceMul, if_true, if_false, ite_true, ite_false, ii_la, ii_al, ii_lm, ii_ml, ii_add, ii_mul, ii_1, ii_le, ii_lt, ii_c1, ii_c2, ii_c3, ii_c4, ii_c5, ii_n1, ii_nn, kC0_v, kC1_v, kC2_v, kC3_v, kC0_x, kC1_x, kC2_x, not_true_eq_false, not_false_eq_true, ne_eq, z]
    rw [wA_wR, ih (k + 1) (by omega)]
    refine congrArg (fun z => some (Sum.inl (some (Value.int (Int32.ofNat (o + n)))), mS b (wR τ a z))) (funext fun i => ?_)
    by_cases e : i = k
    · subst e; rw [if_neg (by omega), if_pos (by omega), upd_s]
    · by_cases g : k + 1 ≤ i ∧ i < n
      · rw [if_pos g, if_pos (by omega)]
      · rw [if_neg g, if_neg (by omega), upd_n _ _ e]
theorem c_R_kOut (d : Nat) (b : pS) (τ : rT) {o n a : Nat} (h1 : 31 ≤ a) (h2 : a < 57) (hl : rLen a = n) (hn : n ≤ 1216) (ho : o + n ≤ 3879) : vcall (d + 1) m_R_keepsRow [.ref 30, .int (Int32.ofNat o), .ref a, .int (Int32.ofNat n), .int 0] (mS b τ) = some (.inl (some (.int (Int32.ofNat (o + n)))), mS b (wR τ a (fun i => if i < n then τ.2 57 (o + i) else τ.2 a i))) := by
  refine (vR rfl).trans ((B_R_keepsRow_0 _ _ _ _ _ _ _).trans ?_)
  have e := kOutL d b τ h1 h2 hl hn ho n 0 (by omega) (τ.2 a)
  rw [wR_id] at e
  simp only [Nat.zero_le, true_and] at e
  exact e
theorem R_image (τ : rT) {g : Nat} (hg : g < 3) (h : τ.1 54 = Int32.ofNat g) : ∃ f, (∀ i, i < 76 → f (1293 * g + i) = τ.2 48 i) ∧ (∀ i, i < 1216 → f (1293 * g + 76 + i) = τ.2 50 i) ∧ f (1293 * g + 1292) = τ.1 37 ∧ (∀ i, i < 1293 * g → f i = τ.2 57 i) ∧ ∀ d b, vcall (d + 3) m_R_image [.ref 30] (mS b τ) = some (.inl (some (.int (Int32.ofNat (g + 1)))), mS b (wF (wR (wF τ 0 0) 57 f) 54 (Int32.ofNat (g + 1)))) := by
  have e1 : ∀ d b, vcall (d + 1) m_R_keepsRow [.ref 30, .int (Int32.ofNat (1293 * g)), .ref 48, .int 76, .int 1] (mS b (wF τ 0 0)) = _ := fun d b => c_R_kIn d b (wF τ 0 0) (o := 1293 * g) (n := 76) (a := 48) (by decide) (by decide) rfl (by decide) (by omega)
  have e2 : ∀ d b f, vcall (d + 1) m_R_keepsRow [.ref 30, .int (Int32.ofNat (1293 * g + 76)), .ref 50, .int 1216, .int 1] (mS b (wR (wF τ 0 0) 57 f)) = _ := fun d b f => c_R_kIn d b (wR (wF τ 0 0) 57 f) (o := 1293 * g + 76) (n := 1216) (a := 50) (by decide) (by decide) rfl (by decide) (by omega)
  have e0 : ∀ d b, vcall (d + 2) m_R_keepsAll [.ref 30, .int (Int32.ofNat g), .int 1] (mS b (wF τ 0 0)) = some (.inl none, mS b (wR (wF τ 0 0) 57 (upd (fun i => if 1293 * g + 76 ≤ i ∧ i < 1293 * g + 76 + 1216 then τ.2 50 (i - (1293 * g + 76)) else if 1293 * g ≤ i ∧ i < 1293 * g + 76 then τ.2 48 (i - 1293 * g) else τ.2 57 i) (1293 * g + 76 + 1216) (τ.1 37)))) := fun d b => by
    refine (vR rfl).trans ((B_R_keepsAll_0 _ _ _ _ _).trans ?_)
    simp (disch := omega) only [m_gF, m_gI, m_pI, m_gIl, m_pIl, ii_m1, ii_s1, m_pF, obs, wF_1, wF_2, wA_1, wA_2, wR_1, wR_2, Nat.reduceEqDiff, Nat.reduceAdd, Nat.reduceMul, if_true, if_false, ite_true, ite_false, ii_la, ii_al, ii_lm, ii_ml, ii_add, ii_mul, ii_1, ii_le, ii_lt, ii_c1, ii_c2, ii_c3, ii_c4, ii_c5, ii_n1, ii_nn, kC0_v, kC1_v, kC2_v, kC3_v, kC0_x, kC1_x, kC2_x, not_true_eq_false, not_false_eq_true, ne_eq]
    rw [e1]
    simp (disch := omega) only [m_gF, m_gI, m_pI, m_gIl, m_pIl, ii_m1, ii_s1, m_pF, obs, wF_1, wF_2, wA_1, wA_2, wR_1, wR_2, Nat.reduceEqDiff, Nat.reduceAdd, Nat.reduceMul, if_true, if_false, ite_true, ite_false, ii_la, ii_al, ii_lm, ii_ml, ii_add, ii_mul, ii_1, ii_le, ii_lt, ii_c1, ii_c2, ii_c3, ii_c4, ii_c5, ii_n1, ii_nn, kC0_v, kC1_v, kC2_v, kC3_v, kC0_x, kC1_x, kC2_x, not_true_eq_false, not_false_eq_true, ne_eq]
    rw [e2]
    simp (disch := omega) only [m_gF, m_gI, m_pI, m_gIl, m_pIl, ii_m1, ii_s1, m_pF, obs, wF_1, wF_2, wA_1, wA_2, wR_1, wR_2, Nat.reduceEqDiff, Nat.reduceAdd, Nat.reduceMul, if_true, if_false, ite_true, ite_false, ii_la, ii_al, ii_lm, ii_ml, ii_add, ii_mul, ii_1, ii_le, ii_lt, ii_c1, ii_c2, ii_c3, ii_c4, ii_c5, ii_n1, ii_nn, kC0_v, kC1_v, kC2_v, kC3_v, kC0_x, kC1_x, kC2_x, not_true_eq_false, not_false_eq_true, ne_eq]
    rw [if_neg (by decide), wR_wR, wA_wR]
  refine ⟨upd (fun i => if 1293 * g + 76 ≤ i ∧ i < 1293 * g + 76 + 1216 then τ.2 50 (i - (1293 * g + 76)) else if 1293 * g ≤ i ∧ i < 1293 * g + 76 then τ.2 48 (i - 1293 * g) else τ.2 57 i) (1293 * g + 76 + 1216) (τ.1 37), fun i hi => ?_, fun i hi => ?_, ?_, fun i hi => ?_, fun d b => (vR rfl).trans ((B_R_image_0 _ _ _).trans ?_)⟩
  rotate_left 4
  · simp (disch := omega) only [m_gF, m_gI, m_pI, m_gIl, m_pIl, ii_m1, ii_s1, m_pF, obs, wF_1, wF_2, wA_1, wA_2, wR_1, wR_2, Nat.reduceEqDiff, Nat.reduceAdd, Nat.reduceMul, if_true, if_false, ite_true, ite_false, ii_la, ii_al, ii_lm, ii_ml, ii_add, ii_mul, ii_1, ii_le, ii_lt, ii_c1, ii_c2, ii_c3, ii_c4, ii_c5, ii_n1, ii_nn, kC0_v, kC1_v, kC2_v, kC3_v, kC0_x, kC1_x, kC2_x, not_true_eq_false, not_false_eq_true, ne_eq, h]
    rw [if_pos (by omega), e0]
    simp (disch := omega) only [m_gF, m_gI, m_pI, m_gIl, m_pIl, ii_m1, ii_s1, m_pF, obs, wF_1, wF_2, wA_1, wA_2, wR_1, wR_2, Nat.reduceEqDiff, Nat.reduceAdd, Nat.reduceMul, if_true, if_false, ite_true, ite_false, ii_la, ii_al, ii_lm, ii_ml, ii_add, ii_mul, ii_1, ii_le, ii_lt, ii_c1, ii_c2, ii_c3, ii_c4, ii_c5, ii_n1, ii_nn, kC0_v, kC1_v, kC2_v, kC3_v, kC0_x, kC1_x, kC2_x, not_true_eq_false, not_false_eq_true, ne_eq, h]
  · rw [upd_n _ _ (by omega), if_neg (by omega), if_pos (by omega), Nat.add_sub_cancel_left]
  · rw [upd_n _ _ (by omega), if_pos (by omega), Nat.add_sub_cancel_left]
  · rw [upd_s]
  · rw [upd_n _ _ (by omega), if_neg (by omega), if_neg (by omega)]
theorem R_image3 (d : Nat) (b : pS) (τ : rT) (h : τ.1 54 = Int32.ofNat 3) : vcall (d + 1) m_R_image [.ref 30] (mS b τ) = some (.inl (some (.int (-1))), mS b (wF τ 0 0)) := by
  refine (vR rfl).trans ((B_R_image_0 _ _ _).trans ?_)
  simp (disch := omega) only [m_gF, m_gI, m_pI, m_gIl, m_pIl, ii_m1, ii_s1, m_pF, obs, wF_1, wF_2, wA_1, wA_2, wR_1, wR_2, Nat.reduceEqDiff, Nat.reduceAdd, Nat.reduceMul, if_true, if_false, ite_true, ite_false, ii_la, ii_al, ii_lm, ii_ml, ii_add, ii_mul, ii_1, ii_le, ii_lt, ii_c1, ii_c2, ii_c3, ii_c4, ii_c5, ii_n1, ii_nn, kC0_v, kC1_v, kC2_v, kC3_v, kC0_x, kC1_x, kC2_x, not_true_eq_false, not_false_eq_true, ne_eq, h]
theorem R_restore0 (d : Nat) (b : pS) (τ : rT) (h : τ.1 54 = Int32.ofNat 0) : vcall (d + 1) m_R_restore [.ref 30] (mS b τ) = some (.inl (some (.int (-1))), mS b (wF τ 0 0)) := by
  refine (vR rfl).trans ((B_R_restore_0 _ _ _).trans ?_)
  simp (disch := omega) only [m_gF, m_gI, m_pI, m_gIl, m_pIl, ii_m1, ii_s1, m_pF, obs, wF_1, wF_2, wA_1, wA_2, wR_1, wR_2, Nat.reduceEqDiff, Nat.reduceAdd, Nat.reduceMul, if_true, if_false, ite_true, ite_false, ii_la, ii_al, ii_lm, ii_ml, ii_add, ii_mul, ii_1, ii_le, ii_lt, ii_c1, ii_c2, ii_c3, ii_c4, ii_c5, ii_n1, ii_nn, kC0_v, kC1_v, kC2_v, kC3_v, kC0_x, kC1_x, kC2_x, not_true_eq_false, not_false_eq_true, ne_eq, h]
theorem R_restore (d : Nat) (b : pS) (τ : rT) {g : Nat} {v : Nat → Int32} (hg : g < 3) (h : τ.1 54 = Int32.ofNat (g + 1)) (hv : ∀ i, i < 76 → τ.2 57 (1293 * g + i) = v i) : vcall (d + 3) m_R_restore [.ref 30] (mS b τ) = some (.inl (some (.int (Int32.ofNat g))), mS b (wF (wF (wR (wR (wF (wF τ 0 0) 54 (Int32.ofNat g)) 48 v) 50 (fun i => if i < 1216 then τ.2 57 (1293 * g + 76 + i) else τ.2 50 i)) 37 (τ.2 57 (1293 * g + 1292))) 38 0)) := by
  have e1 : ∀ τ, vcall (d + 1) m_R_keepsRow [.ref 30, .int (Int32.ofNat (1293 * g)), .ref 48, .int 76, .int 0] (mS b τ) = _ := fun τ => c_R_kOut d b τ (o := 1293 * g) (n := 76) (a := 48) (by decide) (by decide) rfl (by decide) (by omega)
  have e2 : ∀ τ, vcall (d + 1) m_R_keepsRow [.ref 30, .int (Int32.ofNat (1293 * g + 76)), .ref 50, .int 1216, .int 0] (mS b τ) = _ := fun τ => c_R_kOut d b τ (o := 1293 * g + 76) (n := 1216) (a := 50) (by decide) (by decide) rfl (by decide) (by omega)
  have nz : ¬ Int32.ofNat (g + 1) = 0 := by
    have : (Int32.ofNat (g + 1) = Int32.ofNat 0) = (g + 1 = 0) := ii_eq (by omega) (by omega)
    intro e
    have e : Int32.ofNat (g + 1) = Int32.ofNat 0 := e
    rw [this] at e; omega
  have e0 : vcall (d + 2) m_R_keepsAll [.ref 30, .int (Int32.ofNat g), .int 0] (mS b (wF (wF τ 0 0) 54 (Int32.ofNat g))) = some (.inl none, mS b (wF (wR (wR (wF (wF τ 0 0) 54 (Int32.ofNat g)) 48 (fun i => if i < 76 then τ.2 57 (1293 * g + i) else τ.2 48 i)) 50 (fun i => if i < 1216 then τ.2 57 (1293 * g + 76 + i) else τ.2 50 i)) 37 (τ.2 57 (1293 * g + 76 + 1216)))) := by
    refine (vR rfl).trans ((B_R_keepsAll_0 _ _ _ _ _).trans ?_)
    simp (disch := omega) only [m_gF, m_gI, m_pI, m_gIl, m_pIl, ii_m1, ii_s1, m_pF, obs, wF_1, wF_2, wA_1, wA_2, wR_1, wR_2, Nat.reduceEqDiff, Nat.reduceAdd, Nat.reduceMul, if_true, if_false, ite_true, ite_false, ii_la, ii_al, ii_lm, ii_ml, ii_add, ii_mul, ii_1, ii_le, ii_lt, ii_c1, ii_c2, ii_c3, ii_c4, ii_c5, ii_n1, ii_nn, kC0_v, kC1_v, kC2_v, kC3_v, kC0_x, kC1_x, kC2_x, not_true_eq_false, not_false_eq_true, ne_eq]
    rw [e1]
    simp (disch := omega) only [m_gF, m_gI, m_pI, m_gIl, m_pIl, ii_m1, ii_s1, m_pF, obs, wF_1, wF_2, wA_1, wA_2, wR_1, wR_2, Nat.reduceEqDiff, Nat.reduceAdd, Nat.reduceMul, if_true, if_false, ite_true, ite_false, ii_la, ii_al, ii_lm, ii_ml, ii_add, ii_mul, ii_1, ii_le, ii_lt, ii_c1, ii_c2, ii_c3, ii_c4, ii_c5, ii_n1, ii_nn, kC0_v, kC1_v, kC2_v, kC3_v, kC0_x, kC1_x, kC2_x, not_true_eq_false, not_false_eq_true, ne_eq]
    rw [e2]
    simp (disch := omega) only [m_gF, m_gI, m_pI, m_gIl, m_pIl, ii_m1, ii_s1, m_pF, obs, wF_1, wF_2, wA_1, wA_2, wR_1, wR_2, Nat.reduceEqDiff, Nat.reduceAdd, Nat.reduceMul, if_true, if_false, ite_true, ite_false, ii_la, ii_al, ii_lm, ii_ml, ii_add, ii_mul, ii_1, ii_le, ii_lt, ii_c1, ii_c2, ii_c3, ii_c4, ii_c5, ii_n1, ii_nn, kC0_v, kC1_v, kC2_v, kC3_v, kC0_x, kC1_x, kC2_x, not_true_eq_false, not_false_eq_true, ne_eq]
  refine (vR rfl).trans ((B_R_restore_0 _ _ _).trans ?_)
  simp (disch := omega) only [m_gF, m_gI, m_pI, m_gIl, m_pIl, ii_m1, ii_s1, m_pF, obs, wF_1, wF_2, wA_1, wA_2, wR_1, wR_2, Nat.reduceEqDiff, Nat.reduceAdd, Nat.reduceMul, if_true, if_false, ite_true, ite_false, ii_la, ii_al, ii_lm, ii_ml, ii_add, ii_mul, ii_1, ii_le, ii_lt, ii_c1, ii_c2, ii_c3, ii_c4, ii_c5, ii_n1, ii_nn, kC0_v, kC1_v, kC2_v, kC3_v, kC0_x, kC1_x, kC2_x, not_true_eq_false, not_false_eq_true, ne_eq, h]
  rw [e0]
  simp (disch := omega) only [m_gF, m_gI, m_pI, m_gIl, m_pIl, ii_m1, ii_s1, m_pF, obs, wF_1, wF_2, wA_1, wA_2, wR_1, wR_2, Nat.reduceEqDiff, Nat.reduceAdd, Nat.reduceMul, if_true, if_false, ite_true, ite_false, ii_la, ii_al, ii_lm, ii_ml, ii_add, ii_mul, ii_1, ii_le, ii_lt, ii_c1, ii_c2, ii_c3, ii_c4, ii_c5, ii_n1, ii_nn, kC0_v, kC1_v, kC2_v, kC3_v, kC0_x, kC1_x, kC2_x, not_true_eq_false, not_false_eq_true, ne_eq, h]
  refine congrArg (fun z => some (Sum.inl (some (Value.int (Int32.ofNat g))), z)) (mS_eq (fun k _ => rfl) (fun a h1 h2 i hi => ?_))
  simp only [wF_2, wR_2]
  by_cases e5 : a = 50
  · rw [if_pos e5, if_pos e5]
  · rw [if_neg e5, if_neg e5]
    by_cases ea : a = 48
    · subst ea
      have hi : i < 76 := hi
      rw [if_pos rfl, if_pos rfl]
      show (if _ then _ else _) = _
      rw [if_pos hi]; exact hv i hi
    · rw [if_neg ea, if_neg ea]
