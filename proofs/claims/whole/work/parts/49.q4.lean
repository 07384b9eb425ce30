/-! VIEWS of a heap; a scene that takes another's numbers; ahead, when, stains -/
def nS (b : pS) (a n : Nat) (c : Nat → Option pC) : pS := (b.1, b.2.1, fun j => if a ≤ j ∧ j < a + n then c (j - a) else b.2.2 j)
def Has (S : pS) (a n : Nat) (c : Nat → Option pC) : Prop := ∀ i, i < n → S.2.2 (a + i) = c i
theorem nS_i {b : pS} {a n : Nat} {c : Nat → Option pC} {i : Nat} (h : i < n) : (nS b a n c).2.2 (a + i) = c i := by
  show (if _ then _ else _) = _
  rw [if_pos (by omega), Nat.add_sub_cancel_left]
theorem nS_o {b : pS} {a n : Nat} {c : Nat → Option pC} {j : Nat} (h : ¬ (a ≤ j ∧ j < a + n)) : (nS b a n c).2.2 j = b.2.2 j := by
  show (if _ then _ else _) = _
  rw [if_neg h]
theorem nS_s {b : pS} {a n : Nat} {c : Nat → Option pC} {i : Nat} (h : i < n) (x : pC) : pSet (nS b a n c) (a + i) x = nS b a n (upo c i x) := by
  refine congrArg (fun z => (b.1, b.2.1, z)) (funext fun j => ?_)
  show (if j = a + i then some x else if _ then _ else _) = (if _ then (if j - a = i then some x else c (j - a)) else _)
  by_cases h1 : j = a + i
  · subst h1; rw [if_pos rfl, if_pos (by omega), if_pos (by omega)]
  · rw [if_neg h1]
    by_cases h2 : a ≤ j ∧ j < a + n
    · rw [if_pos h2, if_pos h2, if_neg (by omega)]
    · rw [if_neg h2, if_neg h2]
theorem nS_id {S : pS} {a n : Nat} {c : Nat → Option pC} (h : Has S a n c) : nS S a n c = S := by
  refine congrArg (fun z => (S.1, S.2.1, z)) (funext fun j => ?_)
  by_cases h2 : a ≤ j ∧ j < a + n
  · rw [if_pos h2]; have := h (j - a) (by omega); rw [show a + (j - a) = j by omega] at this; exact this.symm
  · rw [if_neg h2]
theorem pCp_at {S : pS} {q r n0 n1 k : Nat} {f g : Nat → Int32} (h1 : S.2.2 q = some (cI n0 f)) (h2 : S.2.2 r = some (cI n1 g)) (hk : k < 2147483648) (h3 : k ≤ n0) (h4 : k ≤ n1) : pCp S q 0 r 0 (Int32.ofNat k) = some (pSet S r (cI n1 (va_cpy f g 0 0 k))) := by
  unfold pCp
  rw [h1, h2]
  dsimp only
  have z : (0 : Int32).toNatClampNeg = 0 := by decide
  have z1 : ((0 : Int32) < 0) = False := eq_false (by decide)
  rw [ii_tn hk, z]
  simp only [z1, ii_nn hk, false_or]
  rw [if_neg (by omega)]
def updR (v w : Nat → Int32) (o k : Nat) : Nat → Int32 := fun i => if o ≤ i ∧ i < o + k then w i else v i
theorem updR_i {v w : Nat → Int32} {o k i : Nat} (h : i < k) : updR v w o k (o + i) = w (o + i) := if_pos (by omega)
theorem updR_o {v w : Nat → Int32} {o k i : Nat} (h : ¬ (o ≤ i ∧ i < o + k)) : updR v w o k i = v i := if_neg h
theorem scC_0 (a u : Nat) (v : Nat → Int32) : scC a u v 0 = some (cO 5 [.ref u, .ref (a + 1), .ref (a + 2), .ref (a + 3), .ref (a + 4), .ref (a + 5), .int (v 75), .int (v 74)]) := id rfl
theorem scU_1 (a u : Nat) (v w : Nat → Int32) : upo (scC a u v) 1 (cI 8 (va_cpy (cut 8 fun i => w (0 + i)) (cut 8 fun i => v (0 + i)) 0 0 8)) = scC a u (updR v w 0 8) := by
  funext j
  unfold upo
  rcases j with _ | _ | _ | _ | _ | _ | j
  · rw [if_neg (by decide), scC_0, scC_0, updR_o (by omega), updR_o (by omega)]
  · rw [if_pos (by decide)]
    refine congrArg (fun z => some (cI 8 z)) (funext fun x => ?_)
    unfold va_cpy
    by_cases hx : x < 8
    · rw [if_pos (by omega), cut_lt _ (by omega), cut_lt _ hx, updR_i hx, show 0 + (x - 0) = x by omega]
    · rw [if_neg (by omega)]; unfold cut; rw [if_neg hx, if_neg hx]
  · rw [if_neg (by decide)]
    exact congrArg (fun z => some (cI 6 z)) (cut_eq (fun x hx => (updR_o (by omega)).symm))
  · rw [if_neg (by decide)]
    exact congrArg (fun z => some (cI 6 z)) (cut_eq (fun x hx => (updR_o (by omega)).symm))
  · rw [if_neg (by decide)]
    exact congrArg (fun z => some (cI 6 z)) (cut_eq (fun x hx => (updR_o (by omega)).symm))
  · rw [if_neg (by decide)]
    exact congrArg (fun z => some (cI 48 z)) (cut_eq (fun x hx => (updR_o (by omega)).symm))
  · rw [if_neg (by omega)]; rfl
theorem scU_2 (a u : Nat) (v w : Nat → Int32) : upo (scC a u v) 2 (cI 6 (va_cpy (cut 6 fun i => w (8 + i)) (cut 6 fun i => v (8 + i)) 0 0 6)) = scC a u (updR v w 8 6) := by
  funext j
  unfold upo
  rcases j with _ | _ | _ | _ | _ | _ | j
  · rw [if_neg (by decide), scC_0, scC_0, updR_o (by omega), updR_o (by omega)]
  · rw [if_neg (by decide)]
    exact congrArg (fun z => some (cI 8 z)) (cut_eq (fun x hx => (updR_o (by omega)).symm))
  · rw [if_pos (by decide)]
    refine congrArg (fun z => some (cI 6 z)) (funext fun x => ?_)
    unfold va_cpy
    by_cases hx : x < 6
    · rw [if_pos (by omega), cut_lt _ (by omega), cut_lt _ hx, updR_i hx, show 0 + (x - 0) = x by omega]
    · rw [if_neg (by omega)]; unfold cut; rw [if_neg hx, if_neg hx]
  · rw [if_neg (by decide)]
    exact congrArg (fun z => some (cI 6 z)) (cut_eq (fun x hx => (updR_o (by omega)).symm))
  · rw [if_neg (by decide)]
    exact congrArg (fun z => some (cI 6 z)) (cut_eq (fun x hx => (updR_o (by omega)).symm))
  · rw [if_neg (by decide)]
    exact congrArg (fun z => some (cI 48 z)) (cut_eq (fun x hx => (updR_o (by omega)).symm))
  · rw [if_neg (by omega)]; rfl
theorem scU_3 (a u : Nat) (v w : Nat → Int32) : upo (scC a u v) 3 (cI 6 (va_cpy (cut 6 fun i => w (14 + i)) (cut 6 fun i => v (14 + i)) 0 0 6)) = scC a u (updR v w 14 6) := by
  funext j
  unfold upo
  rcases j with _ | _ | _ | _ | _ | _ | j
  · rw [if_neg (by decide), scC_0, scC_0, updR_o (by omega), updR_o (by omega)]
  · rw [if_neg (by decide)]
    exact congrArg (fun z => some (cI 8 z)) (cut_eq (fun x hx => (updR_o (by omega)).symm))
  · rw [if_neg (by decide)]
    exact congrArg (fun z => some (cI 6 z)) (cut_eq (fun x hx => (updR_o (by omega)).symm))
  · rw [if_pos (by decide)]
    refine congrArg (fun z => some (cI 6 z)) (funext fun x => ?_)
    unfold va_cpy
    by_cases hx : x < 6
    · rw [if_pos (by omega), cut_lt _ (by omega), cut_lt _ hx, updR_i hx, show 0 + (x - 0) = x by omega]
    · rw [if_neg (by omega)]; unfold cut; rw [if_neg hx, if_neg hx]
  · rw [if_neg (by decide)]
    exact congrArg (fun z => some (cI 6 z)) (cut_eq (fun x hx => (updR_o (by omega)).symm))
  · rw [if_neg (by decide)]
    exact congrArg (fun z => some (cI 48 z)) (cut_eq (fun x hx => (updR_o (by omega)).symm))
  · rw [if_neg (by omega)]; rfl
theorem scU_4 (a u : Nat) (v w : Nat → Int32) : upo (scC a u v) 4 (cI 6 (va_cpy (cut 6 fun i => w (20 + i)) (cut 6 fun i => v (20 + i)) 0 0 6)) = scC a u (updR v w 20 6) := by
  funext j
  unfold upo
  rcases j with _ | _ | _ | _ | _ | _ | j
  · rw [if_neg (by decide), scC_0, scC_0, updR_o (by omega), updR_o (by omega)]
  · rw [if_neg (by decide)]
    exact congrArg (fun z => some (cI 8 z)) (cut_eq (fun x hx => (updR_o (by omega)).symm))
  · rw [if_neg (by decide)]
    exact congrArg (fun z => some (cI 6 z)) (cut_eq (fun x hx => (updR_o (by omega)).symm))
  · rw [if_neg (by decide)]
    exact congrArg (fun z => some (cI 6 z)) (cut_eq (fun x hx => (updR_o (by omega)).symm))
  · rw [if_pos (by decide)]
    refine congrArg (fun z => some (cI 6 z)) (funext fun x => ?_)
    unfold va_cpy
    by_cases hx : x < 6
    · rw [if_pos (by omega), cut_lt _ (by omega), cut_lt _ hx, updR_i hx, show 0 + (x - 0) = x by omega]
    · rw [if_neg (by omega)]; unfold cut; rw [if_neg hx, if_neg hx]
  · rw [if_neg (by decide)]
    exact congrArg (fun z => some (cI 48 z)) (cut_eq (fun x hx => (updR_o (by omega)).symm))
  · rw [if_neg (by omega)]; rfl
theorem scU_5 (a u : Nat) (v w : Nat → Int32) : upo (scC a u v) 5 (cI 48 (va_cpy (cut 48 fun i => w (26 + i)) (cut 48 fun i => v (26 + i)) 0 0 48)) = scC a u (updR v w 26 48) := by
  funext j
  unfold upo
  rcases j with _ | _ | _ | _ | _ | _ | j
  · rw [if_neg (by decide), scC_0, scC_0, updR_o (by omega), updR_o (by omega)]
  · rw [if_neg (by decide)]
    exact congrArg (fun z => some (cI 8 z)) (cut_eq (fun x hx => (updR_o (by omega)).symm))
  · rw [if_neg (by decide)]
    exact congrArg (fun z => some (cI 6 z)) (cut_eq (fun x hx => (updR_o (by omega)).symm))
  · rw [if_neg (by decide)]
    exact congrArg (fun z => some (cI 6 z)) (cut_eq (fun x hx => (updR_o (by omega)).symm))
  · rw [if_neg (by decide)]
    exact congrArg (fun z => some (cI 6 z)) (cut_eq (fun x hx => (updR_o (by omega)).symm))
  · rw [if_pos (by decide)]
    refine congrArg (fun z => some (cI 48 z)) (funext fun x => ?_)
    unfold va_cpy
    by_cases hx : x < 48
    · rw [if_pos (by omega), cut_lt _ (by omega), cut_lt _ hx, updR_i hx, show 0 + (x - 0) = x by omega]
    · rw [if_neg (by omega)]; unfold cut; rw [if_neg hx, if_neg hx]
  · rw [if_neg (by omega)]; rfl
theorem scC_eq {a u : Nat} {v w : Nat → Int32} (h : ∀ i, i < 76 → v i = w i) : scC a u v = scC a u w := by
  funext j
  rcases j with _ | _ | _ | _ | _ | _ | j
  · rw [scC_0, scC_0, h 75 (by decide), h 74 (by decide)]
  · exact congrArg (fun z => some (cI 8 z)) (cut_eq (fun x hx => h _ (by omega)))
  · exact congrArg (fun z => some (cI 6 z)) (cut_eq (fun x hx => h _ (by omega)))
  · exact congrArg (fun z => some (cI 6 z)) (cut_eq (fun x hx => h _ (by omega)))
  · exact congrArg (fun z => some (cI 6 z)) (cut_eq (fun x hx => h _ (by omega)))
  · exact congrArg (fun z => some (cI 48 z)) (cut_eq (fun x hx => h _ (by omega)))
  · rfl
theorem scF_6 (a u : Nat) (v : Nat → Int32) (x : Int32) : upo (scC a u v) 0 (cO 5 [.ref u, .ref (a + 1), .ref (a + 2), .ref (a + 3), .ref (a + 4), .ref (a + 5), .int x, .int (v 74)]) = scC a u (upd v 75 x) := by
  funext j
  unfold upo
  rcases j with _ | j
  · rw [if_pos rfl, scC_0, upd_s, upd_n _ _ (by decide)]
  · rw [if_neg (by omega)]
    rcases j with _ | _ | _ | _ | _ | j
    · exact congrArg (fun z => some (cI 8 z)) (cut_eq (fun x hx => (upd_n _ _ (by omega)).symm))
    · exact congrArg (fun z => some (cI 6 z)) (cut_eq (fun x hx => (upd_n _ _ (by omega)).symm))
    · exact congrArg (fun z => some (cI 6 z)) (cut_eq (fun x hx => (upd_n _ _ (by omega)).symm))
    · exact congrArg (fun z => some (cI 6 z)) (cut_eq (fun x hx => (upd_n _ _ (by omega)).symm))
    · exact congrArg (fun z => some (cI 48 z)) (cut_eq (fun x hx => (upd_n _ _ (by omega)).symm))
    · rfl
theorem scF_7 (a u : Nat) (v : Nat → Int32) (x : Int32) : upo (scC a u v) 0 (cO 5 [.ref u, .ref (a + 1), .ref (a + 2), .ref (a + 3), .ref (a + 4), .ref (a + 5), .int (v 75), .int x]) = scC a u (upd v 74 x) := by
  funext j
  unfold upo
  rcases j with _ | j
  · rw [if_pos rfl, scC_0, upd_s, upd_n _ _ (by decide)]
  · rw [if_neg (by omega)]
    rcases j with _ | _ | _ | _ | _ | j
    · exact congrArg (fun z => some (cI 8 z)) (cut_eq (fun x hx => (upd_n _ _ (by omega)).symm))
    · exact congrArg (fun z => some (cI 6 z)) (cut_eq (fun x hx => (upd_n _ _ (by omega)).symm))
    · exact congrArg (fun z => some (cI 6 z)) (cut_eq (fun x hx => (upd_n _ _ (by omega)).symm))
    · exact congrArg (fun z => some (cI 6 z)) (cut_eq (fun x hx => (upd_n _ _ (by omega)).symm))
    · exact congrArg (fun z => some (cI 48 z)) (cut_eq (fun x hx => (upd_n _ _ (by omega)).symm))
    · rfl
/-- a scene takes another's numbers, wherever the two lie -/
theorem c_take (d : Nat) {S : pS} {a c u u' : Nat} {v w : Nat → Int32} (ha : Has S a 6 (scC a u v)) (hc : Has S c 6 (scC c u' w)) (hd : dj c 6 a 6) : vcall (d + 1) m_Sc_take [.ref a, .ref c] S = some (.inl none, nS S a 6 (scC a u w)) := by
  have ho : ∀ (f : Nat → Option pC) (i : Nat), i < 6 → (nS S a 6 f).2.2 (c + i) = scC c u' w i := fun f i hi => (nS_o (dj_n hd hi)).trans (hc i hi)
  have gc : ∀ (v' : Nat → Int32), gFr (nS S a 6 (scC a u v')) c 5 1 = some (c + 1) ∧ gFr (nS S a 6 (scC a u v')) c 5 2 = some (c + 2) ∧ gFr (nS S a 6 (scC a u v')) c 5 3 = some (c + 3) ∧ gFr (nS S a 6 (scC a u v')) c 5 4 = some (c + 4) ∧ gFr (nS S a 6 (scC a u v')) c 5 5 = some (c + 5) ∧ gFi (nS S a 6 (scC a u v')) c 5 6 = some (w 75) ∧ gFi (nS S a 6 (scC a u v')) c 5 7 = some (w 74) := fun v' => by
    have e := ho (scC a u v') 0 (by decide)
    exact ⟨gFr_at e rfl, gFr_at e rfl, gFr_at e rfl, gFr_at e rfl, gFr_at e rfl, gFi_at e rfl, gFi_at e rfl⟩
  have ga : ∀ (v' : Nat → Int32), gFr (nS S a 6 (scC a u v')) a 5 1 = some (a + 1) ∧ gFr (nS S a 6 (scC a u v')) a 5 2 = some (a + 2) ∧ gFr (nS S a 6 (scC a u v')) a 5 3 = some (a + 3) ∧ gFr (nS S a 6 (scC a u v')) a 5 4 = some (a + 4) ∧ gFr (nS S a 6 (scC a u v')) a 5 5 = some (a + 5) := fun v' => by
    have e := nS_i (b := S) (a := a) (c := scC a u v') (i := 0) (n := 6) (by decide)
    exact ⟨gFr_at e rfl, gFr_at e rfl, gFr_at e rfl, gFr_at e rfl, gFr_at e rfl⟩
  have gn : ∀ (v' : Nat → Int32), gN (nS S a 6 (scC a u v')) (a + 1) = some (Int32.ofNat 8) ∧ gN (nS S a 6 (scC a u v')) (a + 2) = some (Int32.ofNat 6) ∧ gN (nS S a 6 (scC a u v')) (a + 3) = some (Int32.ofNat 6) ∧ gN (nS S a 6 (scC a u v')) (a + 4) = some (Int32.ofNat 6) ∧ gN (nS S a 6 (scC a u v')) (a + 5) = some (Int32.ofNat 48) := fun v' =>
    ⟨gN_at (nS_i (i := 1) (by decide)), gN_at (nS_i (i := 2) (by decide)), gN_at (nS_i (i := 3) (by decide)), gN_at (nS_i (i := 4) (by decide)), gN_at (nS_i (i := 5) (by decide))⟩
  have p1 : ∀ (v' : Nat → Int32), pCp (nS S a 6 (scC a u v')) (c + 1) 0 (a + 1) 0 (Int32.ofNat 8) = some (nS S a 6 (scC a u (updR v' w 0 8))) := fun v' => by
    rw [pCp_at (ho _ 1 (by decide)) (nS_i (i := 1) (by decide)) (by decide) (by decide) (by decide), nS_s (by decide), scU_1]
  have p2 : ∀ (v' : Nat → Int32), pCp (nS S a 6 (scC a u v')) (c + 2) 0 (a + 2) 0 (Int32.ofNat 6) = some (nS S a 6 (scC a u (updR v' w 8 6))) := fun v' => by
    rw [pCp_at (ho _ 2 (by decide)) (nS_i (i := 2) (by decide)) (by decide) (by decide) (by decide), nS_s (by decide), scU_2]
  have p3 : ∀ (v' : Nat → Int32), pCp (nS S a 6 (scC a u v')) (c + 3) 0 (a + 3) 0 (Int32.ofNat 6) = some (nS S a 6 (scC a u (updR v' w 14 6))) := fun v' => by
    rw [pCp_at (ho _ 3 (by decide)) (nS_i (i := 3) (by decide)) (by decide) (by decide) (by decide), nS_s (by decide), scU_3]
  have p4 : ∀ (v' : Nat → Int32), pCp (nS S a 6 (scC a u v')) (c + 4) 0 (a + 4) 0 (Int32.ofNat 6) = some (nS S a 6 (scC a u (updR v' w 20 6))) := fun v' => by
    rw [pCp_at (ho _ 4 (by decide)) (nS_i (i := 4) (by decide)) (by decide) (by decide) (by decide), nS_s (by decide), scU_4]
  have p5 : ∀ (v' : Nat → Int32), pCp (nS S a 6 (scC a u v')) (c + 5) 0 (a + 5) 0 (Int32.ofNat 48) = some (nS S a 6 (scC a u (updR v' w 26 48))) := fun v' => by
    rw [pCp_at (ho _ 5 (by decide)) (nS_i (i := 5) (by decide)) (by decide) (by decide) (by decide), nS_s (by decide), scU_5]
  have f6 : ∀ (v' : Nat → Int32) (x : Int32), pF (nS S a 6 (scC a u v')) a 5 6 (.int x) = some (nS S a 6 (scC a u (upd v' 75 x))) := fun v' x => by
    rw [pF_at (nS_i (i := 0) (by decide)) (by show 6 < 8; decide), ← scF_6]
    exact congrArg some (nS_s (i := 0) (by decide) _)
  have f7 : ∀ (v' : Nat → Int32) (x : Int32), pF (nS S a 6 (scC a u v')) a 5 7 (.int x) = some (nS S a 6 (scC a u (upd v' 74 x))) := fun v' x => by
    rw [pF_at (nS_i (i := 0) (by decide)) (by show 7 < 8; decide), ← scF_7]
    exact congrArg some (nS_s (i := 0) (by decide) _)
  have e0 : vcall (d + 1) m_Sc_take [.ref a, .ref c] S = den d m_Sc_take 0 [.ref a, .ref c] [] S := by
    have e : rcv m_Sc_take [.ref a, .ref c] S = true := isO_at (ha 0 (by decide))
    unfold vcall
    rw [e]
    rfl
  rw [e0, ← nS_id ha]
  refine (B_Sc_take_0 _ _ _ _).trans ?_
  simp only [gc, ga, gn, p1, p2, p3, p4, p5, f6, f7, obs]
  rw [nS_id ha]
  refine congrArg (fun z => some (Sum.inl none, nS S a 6 z)) (scC_eq (fun i hi => ?_))
  by_cases h1 : i = 74
  · subst h1; rw [upd_s]
  · rw [upd_n _ _ h1]
    by_cases h2 : i = 75
    · subst h2; rw [upd_s]
    · rw [upd_n _ _ h2]
      unfold updR
      by_cases c5 : 26 ≤ i
      · rw [if_pos (by omega)]
      · rw [if_neg (by omega)]
        by_cases c4 : 20 ≤ i
        · rw [if_pos (by omega)]
        · rw [if_neg (by omega)]
          by_cases c3 : 14 ≤ i
          · rw [if_pos (by omega)]
          · rw [if_neg (by omega)]
            by_cases c2 : 8 ≤ i
            · rw [if_pos (by omega)]
            · rw [if_neg (by omega), if_pos (by omega)]
theorem xS_nQ {b : pS} {L : xA} {s : rT} (D : Dj L) (w : Nat → Int32) : nS (xS b L s) (aQ L) 6 (scC (aQ L) (aU L) w) = xS b L (wR s 1 w) := by
  refine congrArg (fun z => (b.1, b.2.1, z)) (funext fun j => ?_)
  show (if _ then _ else (if _ then _ else (if _ then _ else _))) = (if _ then _ else (if _ then _ else _))
  by_cases h : aQ L ≤ j ∧ j < aQ L + 6
  · have h1 : ¬ (aP L ≤ j ∧ j < aP L + 6) := by have := dj_n D.2.1 (i := j - aQ L) (by omega); rwa [show aQ L + (j - aQ L) = j by omega] at this
    rw [if_pos h, if_neg h1, if_pos h]; rfl
  · rw [if_neg h]
    by_cases h0 : aP L ≤ j ∧ j < aP L + 6
    · rw [if_pos h0, if_pos h0]; rfl
    · rw [if_neg h0, if_neg h0, if_neg h, if_neg h]; rfl
theorem xS_nP {b : pS} {L : xA} {s : rT} (w : Nat → Int32) : nS (xS b L s) (aP L) 6 (scC (aP L) (aU L) w) = xS b L (wR s 0 w) := by
  refine congrArg (fun z => (b.1, b.2.1, z)) (funext fun j => ?_)
  show (if _ then _ else (if _ then _ else _)) = (if _ then _ else _)
  by_cases h0 : aP L ≤ j ∧ j < aP L + 6
  · rw [if_pos h0, if_pos h0]; rfl
  · rw [if_neg h0, if_neg h0, if_neg h0]; rfl
theorem dj_s {a n c k : Nat} (h : dj a n c k) : dj c k a n := by unfold dj at *; omega
theorem c_S_takeQ (d : Nat) {b : pS} {L : xA} {s : rT} (D : Dj L) : vcall (d + 1) m_Sc_take [.ref (aQ L), .ref (aP L)] (xS b L s) = some (.inl none, xS b L (wR s 1 (s.2 0))) := by
  rw [c_take d (fun i hi => sn_at (SN_q D) hi) (fun i hi => sn_at (SN_p D) hi) (dj_s D.2.1), xS_nQ D]
/-- days that pass -/
def sItr (l : List Nat) (n : Nat) (dk fs : Nat → Int32) : Nat → (Nat → Int32) → (Nat → Int32)
  | 0, v => v
  | k + 1, v => sPass l n dk fs (sItr l n dk fs k v)
theorem sItr_c {l : List Nat} {n : Nat} {dk dk' fs fs' : Nat → Int32} (h6 : n ≤ 6) (h1 : ∀ p, p < n → dk p = dk' p) (h2 : ∀ p, p < n → fs p = fs' p) (k : Nat) (v : Nat → Int32) : sItr l n dk fs k v = sItr l n dk' fs' k v := by
  induction k with
  | zero => rfl
  | succ k ih => show sPass _ _ _ _ _ = sPass _ _ _ _ _; rw [ih, sPass_c h6 h1 h2]
theorem scI_itr {D m n : Nat} {v : Nat → Int32} (l : List Nat) (dk fs : Nat → Int32) (h6 : n ≤ 6) (h : scI D m n v) (k : Nat) : scI (D + k) m n (sItr l n dk fs k v) := by
  induction k with
  | zero => exact h
  | succ k ih => exact scI_pass l dk fs h6 ih
def ahV (m n : Nat) (v : Nat → Int32) (w : Nat) : Int32 := if w = 0 then sPlate m n v else if w = 1 then sSits n v else sUnseen m n v
theorem Ex0.t {s s' : rT} (h : Kf [] [22, 23, 1] s s') : Ex0 s s' := Kf.up h (by decide) (by decide)
theorem Y_ahead (d : Nat) {b : pS} {L : xA} {s : rT} {m n : Nat} {l : List Nat} (D : Dj L) (C : Cn s m n) (xl : xLaw s l) (K : scI 800 m n (s.2 0)) (k w : Nat) (hk : (0 : Int32) ≤ Int32.ofNat k ∧ Int32.ofNat k ≤ 99) (lk : k < 100) (hw : (0 : Int32) ≤ Int32.ofNat w ∧ Int32.ofNat w ≤ 2) (lw : w < 3) : ∃ s', Ex0 s s' ∧ vcall (d + 7) m_Y_ahead [.ref 0, .int (Int32.ofNat k), .int (Int32.ofNat w)] (xS b L s) = some (.inl (some (.int (ahV m n (sItr l n (s.2 12) (s.2 13) k (s.2 0)) w))), xS b L s') := by
  have h6 := C.2.2.2
  obtain ⟨s1, e, k1, i⟩ := ex_loop (F := fun j (x : rT) => den (d + 6) m_Y_ahead 28 [.ref 0, .int (Int32.ofNat k), .int (Int32.ofNat w), .int (Int32.ofNat j)] [] (xS b L x)) (I := fun j x => Kf [] [22, 23, 1] s x ∧ x.2 1 = sItr l n (s.2 12) (s.2 13) j (s.2 0)) k (wR s 1 (s.2 0)) ⟨(Kf.rf _ _ s).wR (by decide) _, wR_g _ _ _⟩ (fun j x hj hx => by
    obtain ⟨k1, i⟩ := hx
    have hs := scI_itr l (s.2 12) (s.2 13) h6 K j
    obtain ⟨s2, k2, i2, e2⟩ := c_S_passDay (d + 2) (b := b) (SN_q D) (k1.xlaw xl) (k1.xcn C) (by rw [i]; exact hs.1) (by rw [i]; exact hs.2.1)
    rw [i, k1.2 12 (by decide), k1.2 13 (by decide)] at i2
    refine ⟨s2, ?_, k1.tr k2, i2⟩
    rw [B_Y_ahead_28]
    simp (disch := omega) only [x0_gF D, sn_gF (SN_p D), sn_gI (SN_p D), xu_gF D, xu_gI D, xk_gF D, xk_gI D, x1_gF D, pl_ix, ii_m1, ii_s1, obs, wF_1, wF_2, wA_1, wA_2, wR_1, wR_2, Nat.reduceEqDiff, Nat.reduceAdd, Nat.reduceMul, if_true, if_false, ite_true, ite_false, ii_la, ii_al, ii_lm, ii_ml, ii_add, ii_mul, ii_1, ii_le, ii_lt, ii_c1, ii_c2, ii_c3, ii_c4, ii_c5, ii_n1, ii_nn, kC0_v, kC1_v, kC2_v, kC3_v, kC0_x, kC1_x, kC2_x, not_true_eq_false, not_false_eq_true, ne_eq, e2]
    rw [if_neg (by omega)])
  refine ⟨s1, Ex0.t k1, (vY D rfl).trans ((B_Y_ahead_0 _ _ _ _ _).trans ?_)⟩
  simp only [nR_ok (d + 4) D hk, nR_ok (d + 4) D hw, kC0_v, x0_gF D, obs, c_S_takeQ (d + 5) D]
  refine e.trans ?_
  have C1 := k1.xcn C
  rw [B_Y_ahead_28]
  simp (disch := omega) only [x0_gF D, sn_gF (SN_p D), sn_gI (SN_p D), xu_gF D, xu_gI D, xk_gF D, xk_gI D, x1_gF D, pl_ix, ii_m1, ii_s1, obs, wF_1, wF_2, wA_1, wA_2, wR_1, wR_2, Nat.reduceEqDiff, Nat.reduceAdd, Nat.reduceMul, if_true, if_false, ite_true, ite_false, ii_la, ii_al, ii_lm, ii_ml, ii_add, ii_mul, ii_1, ii_le, ii_lt, ii_c1, ii_c2, ii_c3, ii_c4, ii_c5, ii_n1, ii_nn, kC0_v, kC1_v, kC2_v, kC3_v, kC0_x, kC1_x, kC2_x, not_true_eq_false, not_false_eq_true, ne_eq, c_S_onPlate (d + 2) (SN_q D) C1, c_S_whoSits (d + 4) (SN_q D) C1, c_S_unseen (d + 1) (SN_q D) C1, i]
  rw [if_pos (Nat.le_refl k)]
  unfold ahV
  split
  · rfl
  · split <;> rfl
theorem R_ahead (d : Nat) (b : pS) (τ : rT) {m n : Nat} {l : List Nat} (C : rCn τ m n) (rl : rLaw τ l) (K : scI 800 m n (τ.2 48)) (k w : Nat) (hk : (0 : Int32) ≤ Int32.ofNat k ∧ Int32.ofNat k ≤ 99) (lk : k < 100) (hw : (0 : Int32) ≤ Int32.ofNat w ∧ Int32.ofNat w ≤ 2) (lw : w < 3) : ∃ τ', Er0 τ τ' ∧ τ'.1 0 = 0 ∧ vcall (d + 7) m_R_ahead [.ref 30, .int (Int32.ofNat k), .int (Int32.ofNat w)] (mS b τ) = some (.inl (some (.int (ahV m n (sItr l n (τ.2 37) (τ.2 38) k (τ.2 48)) w))), mS b τ') := by
  have h6 := C.2.2.2
  obtain ⟨s1, e, k1, i⟩ := ex_loop (F := fun j (x : rT) => den (d + 6) m_R_ahead 46 [.ref 30, .int (Int32.ofNat k), .int (Int32.ofNat w), .int (Int32.ofNat j)] [] (mS b x)) (I := fun j x => Kf [] [44, 45, 49, 51] (wF τ 0 0) x ∧ x.2 49 = sItr l n (τ.2 37) (τ.2 38) j (τ.2 48)) k (wR (wF τ 0 0) 49 (τ.2 48)) ⟨(Kf.rf _ _ _).wR (by decide) _, wR_g _ _ _⟩ (fun j x hj hx => by
    obtain ⟨k1, i⟩ := hx
    have hs := scI_itr l (τ.2 37) (τ.2 38) h6 K j
    obtain ⟨s2, k2, i2, e2⟩ := c_R_passes d b x (l := l) (m := m) (n := n) (k1.law ((e_T0 τ).law rl)) (k1.cn ((e_T0 τ).cn C)) (by rw [i]; exact hs.1)
    rw [i, k1.2 37 (by decide), k1.2 38 (by decide)] at i2
    refine ⟨s2, ?_, k1.tr k2, i2⟩
    rw [B_R_ahead_46]
    simp (disch := omega) only [m_gF, m_gI, m_pI, m_gIl, m_pIl, ii_m1, ii_s1, m_pF, obs, wF_1, wF_2, wA_1, wA_2, wR_1, wR_2, Nat.reduceEqDiff, Nat.reduceAdd, Nat.reduceMul, if_true, if_false, ite_true, ite_false, ii_la, ii_al, ii_lm, ii_ml, ii_add, ii_mul, ii_1, ii_le, ii_lt, ii_c1, ii_c2, ii_c3, ii_c4, ii_c5, ii_n1, ii_nn, kC0_v, kC1_v, kC2_v, kC3_v, kC0_x, kC1_x, kC2_x, not_true_eq_false, not_false_eq_true, ne_eq, e2]
    rw [if_neg (by omega)])
  refine ⟨s1, (e_T0 τ).tr (k1.up (by decide) (by decide)), k1.1 0 (by decide), (vR rfl).trans ((B_R_ahead_0 _ _ _ _ _).trans ?_)⟩
  simp only [m_pF, obs, rw_ok (d + 5) _ hk, rw_ok (d + 5) _ hw, kC1_v, kC0_v, i10, eq_self, if_false, if_true, not_false_eq_true, B_R_ahead_30, rm_ok (d + 5), c_R_take (d + 4), wF_2]
  refine e.trans ?_
  obtain ⟨hm1, h8, hn1, -⟩ := k1.cn ((e_T0 τ).cn C)
  rw [B_R_ahead_46]
  simp (disch := omega) only [m_gF, m_gI, m_pI, m_gIl, m_pIl, ii_m1, ii_s1, m_pF, obs, wF_1, wF_2, wA_1, wA_2, wR_1, wR_2, Nat.reduceEqDiff, Nat.reduceAdd, Nat.reduceMul, if_true, if_false, ite_true, ite_false, ii_la, ii_al, ii_lm, ii_ml, ii_add, ii_mul, ii_1, ii_le, ii_lt, ii_c1, ii_c2, ii_c3, ii_c4, ii_c5, ii_n1, ii_nn, kC0_v, kC1_v, kC2_v, kC3_v, kC0_x, kC1_x, kC2_x, not_true_eq_false, not_false_eq_true, ne_eq, c_R_allOnPlate (d + 4) b _ m n hm1 h8 hn1 h6, c_R_sitsAll (d + 5) b _ n hn1 h6, c_R_unseen (d + 3) b _ m n hm1 h8 hn1 h6, i]
  rw [if_pos (Nat.le_refl k)]
  unfold ahV
  by_cases h0 : w = 0
  · simp [h0]
  · by_cases h1 : w = 1 <;> simp [h0, h1]
theorem P_ahead {S : pS} {L : xA} {s τ : rT} {m n q : Nat} {l : List Nat} (I : Iv S L s τ m n q l) (hd : RD s τ) (k : Int32) (w : Int32) : Pr m_L_ahead m_R_ahead [.int k, .int w] S := by
  have I' := I; obtain ⟨D, A, hx, hr, ho, ⟨C, Cr, ⟨q1, q2, q3⟩, hy, hdy, hdk, xl, rl, hb1, hb2⟩, ⟨⟨tk, k1, k2, k3⟩, tb, tf, tr⟩, ⟨e48, hsc⟩, rc⟩ := I'; have C' := C; have Cr' := Cr; obtain ⟨hm, h8, hn, h6⟩ := C'; obtain ⟨hm', -, hn', -⟩ := Cr'
  have hL := (cR (d := 199) (M := m_L_ahead) (as := [.ref 0, .int k, .int w, .ref 58]) (s := S)).trans (B_L_ahead_0 _ _ _ _ _ _)
  by_cases h0_ : (0 : Int32) ≤ k ∧ k ≤ 99
  · obtain ⟨k, lk, rfl⟩ := ii_ex (n := 100) (by decide) (Int32.le_trans (show (0 : Int32) ≤ 0 by decide) h0_.1) (Int32.lt_of_le_of_lt h0_.2 (by decide))
    by_cases h1_ : (0 : Int32) ≤ w ∧ w ≤ 2
    · obtain ⟨w, lw, rfl⟩ := ii_ex (n := 3) (by decide) (Int32.le_trans (show (0 : Int32) ≤ 0 by decide) h1_.1) (Int32.lt_of_le_of_lt h1_.2 (by decide))
      have ev : ahV m n (sItr l n (s.2 12) (s.2 13) k (s.2 0)) w = ahV m n (sItr l n (τ.2 37) (τ.2 38) k (τ.2 48)) w := by rw [e48, sItr_c h6 (fun p hp => (hdk p hp).1) (fs' := τ.2 38) (fun p hp => by obtain ⟨-, j, -, -, e1, e2⟩ := hdk p hp; exact e1.trans e2.symm)]
      exact P_q I hd hL (Y_ahead 192 D C xl hsc k w h0_ lk h1_ lw) (fun b => by rw [ev]; exact R_ahead 193 b τ Cr rl (by rw [← e48]; exact hsc) k w h0_ lk h1_ lw)
    · have ya : ∀ d, vcall (d + 4) m_Y_ahead [.ref 0, .int (Int32.ofNat k), .int w] (xS S L s) = xA0 S L s := fun d => by
        refine (vY D rfl).trans ((B_Y_ahead_0 _ _ _ _ _).trans ?_)
        simp only [nR_ok (d + 1) D h0_, kC0_v]
        rw [nR_no (d + 1) D h1_]
        rfl
      have ra : ∀ d b, vcall (d + 3) m_R_ahead [.ref 30, .int (Int32.ofNat k), .int w] (mS b τ) = some (.inl (some (.int 0)), mS b (rN τ 1 1)) := fun d b => by
        refine (vR rfl).trans ((B_R_ahead_0 _ _ _ _ _).trans ?_)
        simp only [m_pF, obs, rw_ok (d + 1) _ h0_, rm_ok (d + 1), rw_no (d + 1) _ h1_, rm_n1 (d + 1) (show (1 : Int32) ≠ 0 by decide), kC1_v, i10, eq_self, if_true, if_false, not_true_eq_false, not_false_eq_true, B_R_ahead_30]
      exact P_a (k := 1) I hd hL (fun _ _ => rfl) (by decide) (ya 195) (ra 197)
  · have ya : ∀ d, vcall (d + 4) m_Y_ahead [.ref 0, .int k, .int w] (xS S L s) = xA0 S L s := fun d => by
      refine (vY D rfl).trans ((B_Y_ahead_0 _ _ _ _ _).trans ?_)
      rw [nR_no (d + 1) D h0_]
      rfl
    have ra : ∀ d b, vcall (d + 3) m_R_ahead [.ref 30, .int k, .int w] (mS b τ) = some (.inl (some (.int 0)), mS b (rN τ 1 1)) := fun d b => by
      refine (vR rfl).trans ((B_R_ahead_0 _ _ _ _ _).trans ?_)
      simp only [m_pF, obs, rw_no (d + 1) _ h0_, rm_n1 (d + 1) (show (1 : Int32) ≠ 0 by decide), kC1_v, i10, eq_self, if_true, if_false, not_true_eq_false, not_false_eq_true, B_R_ahead_30]
    exact P_a (k := 1) I hd hL (fun _ _ => rfl) (by decide) (ya 195) (ra 197)
def whV (l : List Nat) (n : Nat) (dk fs v : Nat → Int32) (p : Nat) : Int32 := if v (8 + p) = -1 then -1 else fsA (fun k => decide (sSeen n (sItr l n dk fs k v) (v (8 + p)).toNatClampNeg = Int32.ofNat p)) 201 0
theorem Y_when (d : Nat) {b : pS} {L : xA} {s : rT} {m n : Nat} {l : List Nat} (D : Dj L) (C : Cn s m n) (xl : xLaw s l) (K : scI 800 m n (s.2 0)) (p : Nat) (hp : p < n) : ∃ s', Ex0 s s' ∧ vcall (d + 7) m_Y_when [.ref 0, .int (Int32.ofNat p)] (xS b L s) = some (.inl (some (.int (whV l n (s.2 12) (s.2 13) (s.2 0) p))), xS b L s') := by
  have C' := C
  obtain ⟨hm, h8, hn, h6⟩ := C'
  unfold whV
  rcases K.1 p hp with h | ⟨t, ht, h⟩
  · refine ⟨s, Kf.rf _ _ s, (vY D rfl).trans ((B_Y_when_0 _ _ _ _).trans ?_)⟩
    simp (disch := omega) only [x0_gF D, sn_gF (SN_p D), sn_gI (SN_p D), xu_gF D, xu_gI D, xk_gF D, xk_gI D, x1_gF D, pl_ix, ii_m1, ii_s1, obs, wF_1, wF_2, wA_1, wA_2, wR_1, wR_2, Nat.reduceEqDiff, Nat.reduceAdd, Nat.reduceMul, if_true, if_false, ite_true, ite_false, ii_la, ii_al, ii_lm, ii_ml, ii_add, ii_mul, ii_1, ii_le, ii_lt, ii_c1, ii_c2, ii_c3, ii_c4, ii_c5, ii_n1, ii_nn, kC0_v, kC1_v, kC2_v, kC3_v, kC0_x, kC1_x, kC2_x, not_true_eq_false, not_false_eq_true, ne_eq, nP_ok (d + 4) D hn (show n ≤ 8 by omega) hp, h]
  · have hne : ¬ s.2 0 (8 + p) = -1 := by rw [h]; simp [ii_n1 (a := t) (by omega)]
    rw [if_neg hne, h, ii_tn (by omega)]
    have key : ∀ j k, k + j = 201 → ∀ x : rT, Kf [] [22, 23, 1] s x → x.2 1 = sItr l n (s.2 12) (s.2 13) k (s.2 0) → ∃ s', Kf [] [22, 23, 1] s s' ∧ den (d + 6) m_Y_when 35 [.ref 0, .int (Int32.ofNat p), .int (Int32.ofNat t), .int (Int32.ofNat k)] [] (xS b L x) = some (.inl (some (.int (fsA (fun k => decide (sSeen n (sItr l n (s.2 12) (s.2 13) k (s.2 0)) t = Int32.ofNat p)) j k))), xS b L s') := by
      intro j
      induction j with
      | zero =>
        intro k hk x k1 i
        refine ⟨x, k1, ?_⟩
        rw [B_Y_when_35]
        simp (disch := omega) only [x0_gF D, sn_gF (SN_p D), sn_gI (SN_p D), xu_gF D, xu_gI D, xk_gF D, xk_gI D, x1_gF D, pl_ix, ii_m1, ii_s1, obs, wF_1, wF_2, wA_1, wA_2, wR_1, wR_2, Nat.reduceEqDiff, Nat.reduceAdd, Nat.reduceMul, if_true, if_false, ite_true, ite_false, ii_la, ii_al, ii_lm, ii_ml, ii_add, ii_mul, ii_1, ii_le, ii_lt, ii_c1, ii_c2, ii_c3, ii_c4, ii_c5, ii_n1, ii_nn, kC0_v, kC1_v, kC2_v, kC3_v, kC0_x, kC1_x, kC2_x, not_true_eq_false, not_false_eq_true, ne_eq]
        rw [if_pos (by omega)]; rfl
      | succ j ih =>
        intro k hk x k1 i
        have hs := scI_itr l (s.2 12) (s.2 13) h6 K k
        have C1 := k1.xcn C
        unfold fsA
        by_cases hq : sSeen n (sItr l n (s.2 12) (s.2 13) k (s.2 0)) t = Int32.ofNat p
        · refine ⟨x, k1, ?_⟩
          rw [B_Y_when_35]
          simp (disch := omega) only [x0_gF D, sn_gF (SN_p D), sn_gI (SN_p D), xu_gF D, xu_gI D, xk_gF D, xk_gI D, x1_gF D, pl_ix, ii_m1, ii_s1, obs, wF_1, wF_2, wA_1, wA_2, wR_1, wR_2, Nat.reduceEqDiff, Nat.reduceAdd, Nat.reduceMul, if_true, if_false, ite_true, ite_false, ii_la, ii_al, ii_lm, ii_ml, ii_add, ii_mul, ii_1, ii_le, ii_lt, ii_c1, ii_c2, ii_c3, ii_c4, ii_c5, ii_n1, ii_nn, kC0_v, kC1_v, kC2_v, kC3_v, kC0_x, kC1_x, kC2_x, not_true_eq_false, not_false_eq_true, ne_eq, c_S_seenOn (d + 2) (SN_q D) C1, i, hq, decide_true, cond_true]
          rw [if_neg (by omega)]
        · obtain ⟨s2, k2, i2, e2⟩ := c_S_passDay (d + 2) (b := b) (SN_q D) (k1.xlaw xl) C1 (by rw [i]; exact hs.1) (by rw [i]; exact hs.2.1)
          rw [i, k1.2 12 (by decide), k1.2 13 (by decide)] at i2
          obtain ⟨s3, k3, e3⟩ := ih (k + 1) (by omega) s2 (k1.tr k2) i2
          refine ⟨s3, k3, ?_⟩
          rw [B_Y_when_35]
          simp (disch := omega) only [x0_gF D, sn_gF (SN_p D), sn_gI (SN_p D), xu_gF D, xu_gI D, xk_gF D, xk_gI D, x1_gF D, pl_ix, ii_m1, ii_s1, obs, wF_1, wF_2, wA_1, wA_2, wR_1, wR_2, Nat.reduceEqDiff, Nat.reduceAdd, Nat.reduceMul, if_true, if_false, ite_true, ite_false, ii_la, ii_al, ii_lm, ii_ml, ii_add, ii_mul, ii_1, ii_le, ii_lt, ii_c1, ii_c2, ii_c3, ii_c4, ii_c5, ii_n1, ii_nn, kC0_v, kC1_v, kC2_v, kC3_v, kC0_x, kC1_x, kC2_x, not_true_eq_false, not_false_eq_true, ne_eq, c_S_seenOn (d + 2) (SN_q D) C1, i, hq, decide_false, cond_false, e2]
          rw [if_neg (by omega)]
          exact e3
    obtain ⟨s', k1, e⟩ := key 201 0 rfl (wR s 1 (s.2 0)) ((Kf.rf _ _ s).wR (by decide) _) (wR_g _ _ _)
    refine ⟨s', Ex0.t k1, (vY D rfl).trans ((B_Y_when_0 _ _ _ _).trans ?_)⟩
    simp (disch := omega) only [x0_gF D, sn_gF (SN_p D), sn_gI (SN_p D), xu_gF D, xu_gI D, xk_gF D, xk_gI D, x1_gF D, pl_ix, ii_m1, ii_s1, obs, wF_1, wF_2, wA_1, wA_2, wR_1, wR_2, Nat.reduceEqDiff, Nat.reduceAdd, Nat.reduceMul, if_true, if_false, ite_true, ite_false, ii_la, ii_al, ii_lm, ii_ml, ii_add, ii_mul, ii_1, ii_le, ii_lt, ii_c1, ii_c2, ii_c3, ii_c4, ii_c5, ii_n1, ii_nn, kC0_v, kC1_v, kC2_v, kC3_v, kC0_x, kC1_x, kC2_x, not_true_eq_false, not_false_eq_true, ne_eq, nP_ok (d + 4) D hn (show n ≤ 8 by omega) hp, h, c_S_takeQ (d + 5) D]
    exact e
theorem R_when (d : Nat) (b : pS) (τ : rT) {m n : Nat} {l : List Nat} (C : rCn τ m n) (rl : rLaw τ l) (K : scI 800 m n (τ.2 48)) (p : Nat) (hp : p < n) : ∃ τ', Er0 τ τ' ∧ τ'.1 0 = 0 ∧ vcall (d + 7) m_R_when [.ref 30, .int (Int32.ofNat p)] (mS b τ) = some (.inl (some (.int (whV l n (τ.2 37) (τ.2 38) (τ.2 48) p))), mS b τ') := by
  have C' := C
  obtain ⟨hm, h8, hn, h6⟩ := C'
  unfold whV
  rcases K.1 p hp with h | ⟨t, ht, h⟩
  · refine ⟨wR (wF τ 0 0) 49 (τ.2 48), e_T1 τ, rfl, (vR rfl).trans ((B_R_when_0 _ _ _ _).trans ?_)⟩
    simp (disch := omega) only [m_gF, m_gI, m_pI, m_gIl, m_pIl, ii_m1, ii_s1, m_pF, obs, wF_1, wF_2, wA_1, wA_2, wR_1, wR_2, Nat.reduceEqDiff, Nat.reduceAdd, Nat.reduceMul, if_true, if_false, ite_true, ite_false, ii_la, ii_al, ii_lm, ii_ml, ii_add, ii_mul, ii_1, ii_le, ii_lt, ii_c1, ii_c2, ii_c3, ii_c4, ii_c5, ii_n1, ii_nn, kC0_v, kC1_v, kC2_v, kC3_v, kC0_x, kC1_x, kC2_x, not_true_eq_false, not_false_eq_true, ne_eq, iP_ok (d + 4) hn (show n ≤ 8 by omega) hp, i10, eq_self, c_R_take (d + 4), h]
  · have hne : ¬ τ.2 48 (8 + p) = -1 := by rw [h]; simp [ii_n1 (a := t) (by omega)]
    rw [if_neg hne, h, ii_tn (by omega)]
    have key : ∀ j k, k + j = 201 → ∀ x : rT, Kf [] [44, 45, 49, 51] (wF τ 0 0) x → x.2 49 = sItr l n (τ.2 37) (τ.2 38) k (τ.2 48) → ∃ s', Kf [] [44, 45, 49, 51] (wF τ 0 0) s' ∧ den (d + 6) m_R_when 39 [.ref 30, .int (Int32.ofNat p), .int (Int32.ofNat t), .int (Int32.ofNat k)] [] (mS b x) = some (.inl (some (.int (fsA (fun k => decide (sSeen n (sItr l n (τ.2 37) (τ.2 38) k (τ.2 48)) t = Int32.ofNat p)) j k))), mS b s') := by
      intro j
      induction j with
      | zero =>
        intro k hk x k1 i
        refine ⟨x, k1, ?_⟩
        rw [B_R_when_39]
        simp (disch := omega) only [m_gF, m_gI, m_pI, m_gIl, m_pIl, ii_m1, ii_s1, m_pF, obs, wF_1, wF_2, wA_1, wA_2, wR_1, wR_2, Nat.reduceEqDiff, Nat.reduceAdd, Nat.reduceMul, if_true, if_false, ite_true, ite_false, ii_la, ii_al, ii_lm, ii_ml, ii_add, ii_mul, ii_1, ii_le, ii_lt, ii_c1, ii_c2, ii_c3, ii_c4, ii_c5, ii_n1, ii_nn, kC0_v, kC1_v, kC2_v, kC3_v, kC0_x, kC1_x, kC2_x, not_true_eq_false, not_false_eq_true, ne_eq]
        rw [if_pos (by omega)]; rfl
      | succ j ih =>
        intro k hk x k1 i
        have hs := scI_itr l (τ.2 37) (τ.2 38) h6 K k
        have C1 := k1.cn ((e_T0 τ).cn C)
        obtain ⟨hm1, -, hn1, -⟩ := C1
        have es := c_R_seenOn (d + 4) b x n hn1 h6 t (by omega)
        rw [i] at es
        unfold fsA
        by_cases hq : sSeen n (sItr l n (τ.2 37) (τ.2 38) k (τ.2 48)) t = Int32.ofNat p
        · refine ⟨x, k1, ?_⟩
          rw [B_R_when_39]
          simp (disch := omega) only [m_gF, m_gI, m_pI, m_gIl, m_pIl, ii_m1, ii_s1, m_pF, obs, wF_1, wF_2, wA_1, wA_2, wR_1, wR_2, Nat.reduceEqDiff, Nat.reduceAdd, Nat.reduceMul, if_true, if_false, ite_true, ite_false, ii_la, ii_al, ii_lm, ii_ml, ii_add, ii_mul, ii_1, ii_le, ii_lt, ii_c1, ii_c2, ii_c3, ii_c4, ii_c5, ii_n1, ii_nn, kC0_v, kC1_v, kC2_v, kC3_v, kC0_x, kC1_x, kC2_x, not_true_eq_false, not_false_eq_true, ne_eq, es, hq, decide_true, cond_true]
          rw [if_neg (by omega)]
        · obtain ⟨s2, k2, i2, e2⟩ := c_R_passes d b x (l := l) (m := m) (n := n) (k1.law ((e_T0 τ).law rl)) (k1.cn ((e_T0 τ).cn C)) (by rw [i]; exact hs.1)
          rw [i, k1.2 37 (by decide), k1.2 38 (by decide)] at i2
          obtain ⟨s3, k3, e3⟩ := ih (k + 1) (by omega) s2 (k1.tr k2) i2
          refine ⟨s3, k3, ?_⟩
          rw [B_R_when_39]
          simp (disch := omega) only [m_gF, m_gI, m_pI, m_gIl, m_pIl, ii_m1, ii_s1, m_pF, obs, wF_1, wF_2, wA_1, wA_2, wR_1, wR_2, Nat.reduceEqDiff, Nat.reduceAdd, Nat.reduceMul, if_true, if_false, ite_true, ite_false, ii_la, ii_al, ii_lm, ii_ml, ii_add, ii_mul, ii_1, ii_le, ii_lt, ii_c1, ii_c2, ii_c3, ii_c4, ii_c5, ii_n1, ii_nn, kC0_v, kC1_v, kC2_v, kC3_v, kC0_x, kC1_x, kC2_x, not_true_eq_false, not_false_eq_true, ne_eq, es, hq, decide_false, cond_false, e2]
          rw [if_neg (by omega)]
          exact e3
    obtain ⟨s', k1, e⟩ := key 201 0 rfl (wR (wF τ 0 0) 49 (τ.2 48)) ((Kf.rf _ _ _).wR (by decide) _) (wR_g _ _ _)
    refine ⟨s', (e_T0 τ).tr (k1.up (by decide) (by decide)), k1.1 0 (by decide), (vR rfl).trans ((B_R_when_0 _ _ _ _).trans ?_)⟩
    simp (disch := omega) only [m_gF, m_gI, m_pI, m_gIl, m_pIl, ii_m1, ii_s1, m_pF, obs, wF_1, wF_2, wA_1, wA_2, wR_1, wR_2, Nat.reduceEqDiff, Nat.reduceAdd, Nat.reduceMul, if_true, if_false, ite_true, ite_false, ii_la, ii_al, ii_lm, ii_ml, ii_add, ii_mul, ii_1, ii_le, ii_lt, ii_c1, ii_c2, ii_c3, ii_c4, ii_c5, ii_n1, ii_nn, kC0_v, kC1_v, kC2_v, kC3_v, kC0_x, kC1_x, kC2_x, not_true_eq_false, not_false_eq_true, ne_eq, iP_ok (d + 4) hn (show n ≤ 8 by omega) hp, i10, eq_self, c_R_take (d + 4), h]
    exact e
theorem P_when {S : pS} {L : xA} {s τ : rT} {m n q : Nat} {l : List Nat} (I : Iv S L s τ m n q l) (hd : RD s τ) (p : Int32) : Pr m_L_when m_R_when [.int p] S := by
  have I' := I; obtain ⟨D, A, hx, hr, ho, ⟨C, Cr, ⟨q1, q2, q3⟩, hy, hdy, hdk, xl, rl, hb1, hb2⟩, ⟨⟨tk, k1, k2, k3⟩, tb, tf, tr⟩, ⟨e48, hsc⟩, rc⟩ := I'; have C' := C; have Cr' := Cr; obtain ⟨hm, h8, hn, h6⟩ := C'; obtain ⟨hm', -, hn', -⟩ := Cr'
  have hL := (cR (d := 199) (M := m_L_when) (as := [.ref 0, .int p, .ref 58]) (s := S)).trans (B_L_when_0 _ _ _ _ _)
  by_cases h0_ : 0 ≤ p ∧ p < Int32.ofNat n
  · obtain ⟨p, lp, rfl⟩ := ii_ex (by omega) h0_.1 h0_.2
    have ev : whV l n (s.2 12) (s.2 13) (s.2 0) p = whV l n (τ.2 37) (τ.2 38) (τ.2 48) p := by
      unfold whV
      rw [e48]
      simp only [sItr_c (l := l) h6 (fun p hp => (hdk p hp).1) (fun p hp => by obtain ⟨-, j, -, -, e1, e2⟩ := hdk p hp; exact e1.trans e2.symm)]
    exact P_q I hd hL (Y_when 192 D C xl hsc p lp) (fun b => by rw [ev]; exact R_when 193 b τ Cr rl (by rw [← e48]; exact hsc) p lp)
  · have ya : ∀ d, vcall (d + 4) m_Y_when [.ref 0, .int p] (xS S L s) = xE0 S L s := fun d => by
      refine (vY D rfl).trans ((B_Y_when_0 _ _ _ _).trans ?_)
      rw [nP_no (d + 1) D (by rw [hn]; exact h0_)]
      rfl
    have ra : ∀ d b, vcall (d + 3) m_R_when [.ref 30, .int p] (mS b τ) = some (.inl (some (.int 0)), mS b (rN τ 1 0)) := fun d b => by
      refine (vR rfl).trans ((B_R_when_0 _ _ _ _).trans ?_)
      simp only [m_pF, obs, iP_no d hn' (show n ≤ 8 by omega) h0_ (show (1 : Int32) ≠ 0 by decide), kC1_v, i10, eq_self, if_true, if_false, not_true_eq_false, not_false_eq_true]
    exact P_e (k := 1) I hd hL (fun _ _ => rfl) (by decide) (ya 195) (ra 197)
