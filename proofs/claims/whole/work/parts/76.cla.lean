/-! A CLAUSE of a studio, as the program reads it, by program (gcl.py) -/
theorem X_room (d : Nat) {M mm : Nat} {H : pH} {L : xA} {s r : rT} (D : Dj L) {c k m : Nat} (hc : c ≤ 60) (hk : k ≤ 8) (hm : m ≤ 8) : call (d + 2) m_Su_hasRoom [.ref 1, .int (Int32.ofNat c), .int (Int32.ofNat k), .int (Int32.ofNat m)] (uQ M mm H L s r) = if c < 60 ∧ k < m then some (.inl (some (.int 1)), uQ M mm H L s r) else some (.inl (some (.int 0)), uQ M mm H L (wF (wF s 23 3) 22 (s.1 26)) r) := by
  have e : den (d + 1) m_Su_hasRoom 11 [.ref 1, .int (Int32.ofNat c), .int (Int32.ofNat k), .int (Int32.ofNat m)] [] (uQ M mm H L s r) = some (.inl (some (.int 0)), uQ M mm H L (wF (wF s 23 3) 22 (s.1 26)) r) := by
    have fa : vcall (d + 1) m_Tp_failAtStart [.ref 1, .int 3] (uQ M mm H L s r) = some (.inl (some (.int 0)), uQ M mm H L (wF (wF s 23 3) 22 (s.1 26)) r) := T_failAt d D 3
    rw [B_Su_hasRoom_11, fa, kC1_v, if_pos rfl]
  refine cR.trans ((B_Su_hasRoom_0 _ _ _ _ _ _).trans ?_)
  have e60 : ((60 : Int32) ≤ Int32.ofNat c) = (60 ≤ c) := ii_le (a := 60) (by omega) (by omega)
  have ekm : (Int32.ofNat k < Int32.ofNat m) = (k < m) := ii_lt (by omega) (by omega)
  simp only [e60, ekm, e]
  by_cases g : 60 ≤ c
  · rw [if_pos g, if_neg (by omega)]
  · rw [if_neg g]
    by_cases g2 : k < m
    · rw [if_pos g2, if_pos ⟨by omega, g2⟩]
    · rw [if_neg g2, if_neg (fun h => g2 h.2)]
theorem X_cl_seat {B : Nat → Nat} {N : Nat} (hB : ∀ i, B i < 256) (hN : N ≤ 600) (d : Nat) {M mm : Nat} {H : pH} {L : xA} {s r : rT} (D : Dj L) (o : ∀ j, M ≤ j → Ot L j) {st e c : Nat} (hc : c ≤ 60) (T : TX B N e s) (hst : s.1 26 = Int32.ofNat st) (he : e ≤ N) (hse : st ≤ e) {k : Nat} (hk : r.1 44 = Int32.ofNat k) (k8 : k ≤ 8) (h0 : wq B st (e - st) w_seat 4) : vcall (d + 5) m_Su_readClause [.ref M, .ref 1, .int (Int32.ofNat c)] (uQ M mm H L s r) = if c < 60 ∧ k < 8 then kC1 (vcall (d + 4) m_Su_readSeat [.ref M, .ref 1] (uQ M mm H L s r)) (fun v s' => if (v : Int32) = 0 then some (.inl (some (.int 0)), s') else some (.inl (some (.int 1)), s')) xp else some (.inl (some (.int 0)), uQ M mm H L (wF (wF s 23 3) 22 (s.1 26)) r) := by
  obtain ⟨x0, y0, z0, e0⟩ := T_is hB hN (d + 2) (b := aL M mm (suL M r) H) D T hst he hse HW_0
  have e0' : vcall (d + 4) m_Tp_wordIs [.ref 1, .ref (pSB + 0)] (uQ M mm H L s r) = some (.inl (some (.int x0)), uQ M mm H L s r) := e0
  rw [y0 h0] at e0'
  have rm : call (d + 4) m_Su_hasRoom [.ref 1, .int (Int32.ofNat c), .int (Int32.ofNat k), .int 8] (uQ M mm H L s r) = _ := X_room (d + 2) (M := M) (mm := mm) (H := H) (s := s) (r := r) D (c := c) (k := k) (m := 8) hc k8 (by decide)
  refine (uQ_v o rfl).trans ((B_Su_readClause_0 _ _ _ _ _).trans ?_)
  rw [e0', kC1_v, if_neg (by decide), (uQ_g o).2.2.2.2.1, obs, hk, rm]
  by_cases g : c < 60 ∧ k < 8
  · rw [if_pos g, if_pos g, kC1_v, if_neg (by decide)]
  · rw [if_neg g, if_neg g, kC1_v, if_pos rfl]
theorem X_cl_sitter {B : Nat → Nat} {N : Nat} (hB : ∀ i, B i < 256) (hN : N ≤ 600) (d : Nat) {M mm : Nat} {H : pH} {L : xA} {s r : rT} (D : Dj L) (o : ∀ j, M ≤ j → Ot L j) {st e c : Nat} (hc : c ≤ 60) (T : TX B N e s) (hst : s.1 26 = Int32.ofNat st) (he : e ≤ N) (hse : st ≤ e) {k : Nat} (hk : r.1 45 = Int32.ofNat k) (k8 : k ≤ 8) (h0 : ¬ wq B st (e - st) w_seat 4) (h1 : wq B st (e - st) w_sitter 6) : vcall (d + 5) m_Su_readClause [.ref M, .ref 1, .int (Int32.ofNat c)] (uQ M mm H L s r) = if c < 60 ∧ k < 6 then kC1 (vcall (d + 4) m_Su_readSitter [.ref M, .ref 1] (uQ M mm H L s r)) (fun v s' => if (v : Int32) = 0 then some (.inl (some (.int 0)), s') else some (.inl (some (.int 1)), s')) xp else some (.inl (some (.int 0)), uQ M mm H L (wF (wF s 23 3) 22 (s.1 26)) r) := by
  obtain ⟨x0, y0, z0, e0⟩ := T_is hB hN (d + 2) (b := aL M mm (suL M r) H) D T hst he hse HW_0
  have e0' : vcall (d + 4) m_Tp_wordIs [.ref 1, .ref (pSB + 0)] (uQ M mm H L s r) = some (.inl (some (.int x0)), uQ M mm H L s r) := e0
  rw [z0 h0] at e0'
  obtain ⟨x1, y1, z1, e1⟩ := T_is hB hN (d + 2) (b := aL M mm (suL M r) H) D T hst he hse HW_1
  have e1' : vcall (d + 4) m_Tp_wordIs [.ref 1, .ref (pSB + 1)] (uQ M mm H L s r) = some (.inl (some (.int x1)), uQ M mm H L s r) := e1
  rw [y1 h1] at e1'
  have rm : call (d + 4) m_Su_hasRoom [.ref 1, .int (Int32.ofNat c), .int (Int32.ofNat k), .int 6] (uQ M mm H L s r) = _ := X_room (d + 2) (M := M) (mm := mm) (H := H) (s := s) (r := r) D (c := c) (k := k) (m := 6) hc k8 (by decide)
  refine (uQ_v o rfl).trans ((B_Su_readClause_0 _ _ _ _ _).trans ?_)
  rw [e0', kC1_v, if_pos rfl, e1', kC1_v, if_neg (by decide), (uQ_g o).2.2.2.2.2.1, obs, hk, rm]
  by_cases g : c < 60 ∧ k < 6
  · rw [if_pos g, if_pos g, kC1_v, if_neg (by decide)]
  · rw [if_neg g, if_neg g, kC1_v, if_pos rfl]
theorem X_cl_sitting {B : Nat → Nat} {N : Nat} (hB : ∀ i, B i < 256) (hN : N ≤ 600) (d : Nat) {M mm : Nat} {H : pH} {L : xA} {s r : rT} (D : Dj L) (o : ∀ j, M ≤ j → Ot L j) {st e c : Nat} (hc : c ≤ 60) (T : TX B N e s) (hst : s.1 26 = Int32.ofNat st) (he : e ≤ N) (hse : st ≤ e) {k : Nat} (hk : r.1 46 = Int32.ofNat k) (k8 : k ≤ 8) (h0 : ¬ wq B st (e - st) w_seat 4) (h1 : ¬ wq B st (e - st) w_sitter 6) (h2 : wq B st (e - st) w_sitting 7) : vcall (d + 5) m_Su_readClause [.ref M, .ref 1, .int (Int32.ofNat c)] (uQ M mm H L s r) = if c < 60 ∧ k < 8 then kC1 (vcall (d + 4) m_Su_readSitting [.ref M, .ref 1] (uQ M mm H L s r)) (fun v s' => if (v : Int32) = 0 then some (.inl (some (.int 0)), s') else some (.inl (some (.int 1)), s')) xp else some (.inl (some (.int 0)), uQ M mm H L (wF (wF s 23 3) 22 (s.1 26)) r) := by
  obtain ⟨x0, y0, z0, e0⟩ := T_is hB hN (d + 2) (b := aL M mm (suL M r) H) D T hst he hse HW_0
  have e0' : vcall (d + 4) m_Tp_wordIs [.ref 1, .ref (pSB + 0)] (uQ M mm H L s r) = some (.inl (some (.int x0)), uQ M mm H L s r) := e0
  rw [z0 h0] at e0'
  obtain ⟨x1, y1, z1, e1⟩ := T_is hB hN (d + 2) (b := aL M mm (suL M r) H) D T hst he hse HW_1
  have e1' : vcall (d + 4) m_Tp_wordIs [.ref 1, .ref (pSB + 1)] (uQ M mm H L s r) = some (.inl (some (.int x1)), uQ M mm H L s r) := e1
  rw [z1 h1] at e1'
  obtain ⟨x2, y2, z2, e2⟩ := T_is hB hN (d + 2) (b := aL M mm (suL M r) H) D T hst he hse HW_2
  have e2' : vcall (d + 4) m_Tp_wordIs [.ref 1, .ref (pSB + 2)] (uQ M mm H L s r) = some (.inl (some (.int x2)), uQ M mm H L s r) := e2
  rw [y2 h2] at e2'
  have rm : call (d + 4) m_Su_hasRoom [.ref 1, .int (Int32.ofNat c), .int (Int32.ofNat k), .int 8] (uQ M mm H L s r) = _ := X_room (d + 2) (M := M) (mm := mm) (H := H) (s := s) (r := r) D (c := c) (k := k) (m := 8) hc k8 (by decide)
  refine (uQ_v o rfl).trans ((B_Su_readClause_0 _ _ _ _ _).trans ?_)
  rw [e0', kC1_v, if_pos rfl, e1', kC1_v, if_pos rfl, e2', kC1_v, if_neg (by decide), (uQ_g o).2.2.2.2.2.2.1, obs, hk, rm]
  by_cases g : c < 60 ∧ k < 8
  · rw [if_pos g, if_pos g, kC1_v, if_neg (by decide)]
  · rw [if_neg g, if_neg g, kC1_v, if_pos rfl]
theorem X_cl_year {B : Nat → Nat} {N : Nat} (hB : ∀ i, B i < 256) (hN : N ≤ 600) (d : Nat) {M mm : Nat} {H : pH} {L : xA} {s r : rT} (D : Dj L) (o : ∀ j, M ≤ j → Ot L j) {st e c : Nat} (hc : c ≤ 60) (T : TX B N e s) (hst : s.1 26 = Int32.ofNat st) (he : e ≤ N) (hse : st ≤ e) (h0 : ¬ wq B st (e - st) w_seat 4) (h1 : ¬ wq B st (e - st) w_sitter 6) (h2 : ¬ wq B st (e - st) w_sitting 7) (h3 : wq B st (e - st) w_year 4) : vcall (d + 5) m_Su_readClause [.ref M, .ref 1, .int (Int32.ofNat c)] (uQ M mm H L s r) = if c < 60 ∧ 0 < 1 then kC1 (vcall (d + 4) m_Su_readYear [.ref M, .ref 1] (uQ M mm H L s r)) (fun v s' => if (v : Int32) = 0 then some (.inl (some (.int 0)), s') else some (.inl (some (.int 1)), s')) xp else some (.inl (some (.int 0)), uQ M mm H L (wF (wF s 23 3) 22 (s.1 26)) r) := by
  obtain ⟨x0, y0, z0, e0⟩ := T_is hB hN (d + 2) (b := aL M mm (suL M r) H) D T hst he hse HW_0
  have e0' : vcall (d + 4) m_Tp_wordIs [.ref 1, .ref (pSB + 0)] (uQ M mm H L s r) = some (.inl (some (.int x0)), uQ M mm H L s r) := e0
  rw [z0 h0] at e0'
  obtain ⟨x1, y1, z1, e1⟩ := T_is hB hN (d + 2) (b := aL M mm (suL M r) H) D T hst he hse HW_1
  have e1' : vcall (d + 4) m_Tp_wordIs [.ref 1, .ref (pSB + 1)] (uQ M mm H L s r) = some (.inl (some (.int x1)), uQ M mm H L s r) := e1
  rw [z1 h1] at e1'
  obtain ⟨x2, y2, z2, e2⟩ := T_is hB hN (d + 2) (b := aL M mm (suL M r) H) D T hst he hse HW_2
  have e2' : vcall (d + 4) m_Tp_wordIs [.ref 1, .ref (pSB + 2)] (uQ M mm H L s r) = some (.inl (some (.int x2)), uQ M mm H L s r) := e2
  rw [z2 h2] at e2'
  obtain ⟨x3, y3, z3, e3⟩ := T_is hB hN (d + 2) (b := aL M mm (suL M r) H) D T hst he hse HW_3
  have e3' : vcall (d + 4) m_Tp_wordIs [.ref 1, .ref (pSB + 3)] (uQ M mm H L s r) = some (.inl (some (.int x3)), uQ M mm H L s r) := e3
  rw [y3 h3] at e3'
  have rm : call (d + 4) m_Su_hasRoom [.ref 1, .int (Int32.ofNat c), .int 0, .int 1] (uQ M mm H L s r) = _ := X_room (d + 2) (M := M) (mm := mm) (H := H) (s := s) (r := r) D (c := c) (k := 0) (m := 1) hc (by decide) (by decide)
  refine (uQ_v o rfl).trans ((B_Su_readClause_0 _ _ _ _ _).trans ?_)
  rw [e0', kC1_v, if_pos rfl, e1', kC1_v, if_pos rfl, e2', kC1_v, if_pos rfl, e3', kC1_v, if_neg (by decide), rm]
  by_cases g : c < 60 ∧ 0 < 1
  · rw [if_pos g, if_pos g, kC1_v, if_neg (by decide)]
  · rw [if_neg g, if_neg g, kC1_v, if_pos rfl]
theorem X_cl_food {B : Nat → Nat} {N : Nat} (hB : ∀ i, B i < 256) (hN : N ≤ 600) (d : Nat) {M mm : Nat} {H : pH} {L : xA} {s r : rT} (D : Dj L) (o : ∀ j, M ≤ j → Ot L j) {st e c : Nat} (hc : c ≤ 60) (T : TX B N e s) (hst : s.1 26 = Int32.ofNat st) (he : e ≤ N) (hse : st ≤ e) (h0 : ¬ wq B st (e - st) w_seat 4) (h1 : ¬ wq B st (e - st) w_sitter 6) (h2 : ¬ wq B st (e - st) w_sitting 7) (h3 : ¬ wq B st (e - st) w_year 4) (h4 : wq B st (e - st) w_food 4) : vcall (d + 5) m_Su_readClause [.ref M, .ref 1, .int (Int32.ofNat c)] (uQ M mm H L s r) = if c < 60 ∧ 0 < 1 then kC1 (vcall (d + 4) m_Su_readFood [.ref M, .ref 1] (uQ M mm H L s r)) (fun v s' => if (v : Int32) = 0 then some (.inl (some (.int 0)), s') else some (.inl (some (.int 1)), s')) xp else some (.inl (some (.int 0)), uQ M mm H L (wF (wF s 23 3) 22 (s.1 26)) r) := by
  obtain ⟨x0, y0, z0, e0⟩ := T_is hB hN (d + 2) (b := aL M mm (suL M r) H) D T hst he hse HW_0
  have e0' : vcall (d + 4) m_Tp_wordIs [.ref 1, .ref (pSB + 0)] (uQ M mm H L s r) = some (.inl (some (.int x0)), uQ M mm H L s r) := e0
  rw [z0 h0] at e0'
  obtain ⟨x1, y1, z1, e1⟩ := T_is hB hN (d + 2) (b := aL M mm (suL M r) H) D T hst he hse HW_1
  have e1' : vcall (d + 4) m_Tp_wordIs [.ref 1, .ref (pSB + 1)] (uQ M mm H L s r) = some (.inl (some (.int x1)), uQ M mm H L s r) := e1
  rw [z1 h1] at e1'
  obtain ⟨x2, y2, z2, e2⟩ := T_is hB hN (d + 2) (b := aL M mm (suL M r) H) D T hst he hse HW_2
  have e2' : vcall (d + 4) m_Tp_wordIs [.ref 1, .ref (pSB + 2)] (uQ M mm H L s r) = some (.inl (some (.int x2)), uQ M mm H L s r) := e2
  rw [z2 h2] at e2'
  obtain ⟨x3, y3, z3, e3⟩ := T_is hB hN (d + 2) (b := aL M mm (suL M r) H) D T hst he hse HW_3
  have e3' : vcall (d + 4) m_Tp_wordIs [.ref 1, .ref (pSB + 3)] (uQ M mm H L s r) = some (.inl (some (.int x3)), uQ M mm H L s r) := e3
  rw [z3 h3] at e3'
  obtain ⟨x4, y4, z4, e4⟩ := T_is hB hN (d + 2) (b := aL M mm (suL M r) H) D T hst he hse HW_4
  have e4' : vcall (d + 4) m_Tp_wordIs [.ref 1, .ref (pSB + 4)] (uQ M mm H L s r) = some (.inl (some (.int x4)), uQ M mm H L s r) := e4
  rw [y4 h4] at e4'
  have rm : call (d + 4) m_Su_hasRoom [.ref 1, .int (Int32.ofNat c), .int 0, .int 1] (uQ M mm H L s r) = _ := X_room (d + 2) (M := M) (mm := mm) (H := H) (s := s) (r := r) D (c := c) (k := 0) (m := 1) hc (by decide) (by decide)
  refine (uQ_v o rfl).trans ((B_Su_readClause_0 _ _ _ _ _).trans ?_)
  rw [e0', kC1_v, if_pos rfl, e1', kC1_v, if_pos rfl, e2', kC1_v, if_pos rfl, e3', kC1_v, if_pos rfl, e4', kC1_v, if_neg (by decide), rm]
  by_cases g : c < 60 ∧ 0 < 1
  · rw [if_pos g, if_pos g, kC1_v, if_neg (by decide)]
  · rw [if_neg g, if_neg g, kC1_v, if_pos rfl]
theorem X_cl_none {B : Nat → Nat} {N : Nat} (hB : ∀ i, B i < 256) (hN : N ≤ 600) (d : Nat) {M mm : Nat} {H : pH} {L : xA} {s r : rT} (D : Dj L) (o : ∀ j, M ≤ j → Ot L j) {st e c : Nat} (hc : c ≤ 60) (T : TX B N e s) (hst : s.1 26 = Int32.ofNat st) (he : e ≤ N) (hse : st ≤ e) (h0 : ¬ wq B st (e - st) w_seat 4) (h1 : ¬ wq B st (e - st) w_sitter 6) (h2 : ¬ wq B st (e - st) w_sitting 7) (h3 : ¬ wq B st (e - st) w_year 4) (h4 : ¬ wq B st (e - st) w_food 4) : vcall (d + 5) m_Su_readClause [.ref M, .ref 1, .int (Int32.ofNat c)] (uQ M mm H L s r) = some (.inl (some (.int 0)), uQ M mm H L (wF (wF s 23 1) 22 (s.1 26)) r) := by
  obtain ⟨x0, y0, z0, e0⟩ := T_is hB hN (d + 2) (b := aL M mm (suL M r) H) D T hst he hse HW_0
  have e0' : vcall (d + 4) m_Tp_wordIs [.ref 1, .ref (pSB + 0)] (uQ M mm H L s r) = some (.inl (some (.int x0)), uQ M mm H L s r) := e0
  rw [z0 h0] at e0'
  obtain ⟨x1, y1, z1, e1⟩ := T_is hB hN (d + 2) (b := aL M mm (suL M r) H) D T hst he hse HW_1
  have e1' : vcall (d + 4) m_Tp_wordIs [.ref 1, .ref (pSB + 1)] (uQ M mm H L s r) = some (.inl (some (.int x1)), uQ M mm H L s r) := e1
  rw [z1 h1] at e1'
  obtain ⟨x2, y2, z2, e2⟩ := T_is hB hN (d + 2) (b := aL M mm (suL M r) H) D T hst he hse HW_2
  have e2' : vcall (d + 4) m_Tp_wordIs [.ref 1, .ref (pSB + 2)] (uQ M mm H L s r) = some (.inl (some (.int x2)), uQ M mm H L s r) := e2
  rw [z2 h2] at e2'
  obtain ⟨x3, y3, z3, e3⟩ := T_is hB hN (d + 2) (b := aL M mm (suL M r) H) D T hst he hse HW_3
  have e3' : vcall (d + 4) m_Tp_wordIs [.ref 1, .ref (pSB + 3)] (uQ M mm H L s r) = some (.inl (some (.int x3)), uQ M mm H L s r) := e3
  rw [z3 h3] at e3'
  obtain ⟨x4, y4, z4, e4⟩ := T_is hB hN (d + 2) (b := aL M mm (suL M r) H) D T hst he hse HW_4
  have e4' : vcall (d + 4) m_Tp_wordIs [.ref 1, .ref (pSB + 4)] (uQ M mm H L s r) = some (.inl (some (.int x4)), uQ M mm H L s r) := e4
  rw [z4 h4] at e4'
  have fa : vcall (d + 4) m_Tp_failAtStart [.ref 1, .int 1] (uQ M mm H L s r) = some (.inl (some (.int 0)), uQ M mm H L (wF (wF s 23 1) 22 (s.1 26)) r) := T_failAt (d + 3) D 1
  refine (uQ_v o rfl).trans ((B_Su_readClause_0 _ _ _ _ _).trans ?_)
  rw [e0', kC1_v, if_pos rfl, e1', kC1_v, if_pos rfl, e2', kC1_v, if_pos rfl, e3', kC1_v, if_pos rfl, e4', kC1_v, if_pos rfl, fa, kC1_v, if_pos (by decide)]
