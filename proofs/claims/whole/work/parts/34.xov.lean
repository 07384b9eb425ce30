/-! THE CLASS's objects laid over a heap, by program (gen34.py) -/
abbrev xA : Type := Nat × Nat × Nat × Nat × Nat × Option Nat × (Nat → Option Nat)
def aU (L : xA) : Nat := L.1
def aW (L : xA) : Nat := L.2.1
def aK (L : xA) : Nat := L.2.2.1
def aP (L : xA) : Nat := L.2.2.2.1
def aQ (L : xA) : Nat := L.2.2.2.2.1
def aZ (L : xA) : Option Nat := L.2.2.2.2.2.1
def aI (L : xA) : Nat → Option Nat := L.2.2.2.2.2.2
def scC (a u : Nat) (v : Nat → Int32) : Nat → Option pC
  | 0 => some (cO 5 [.ref u, .ref (a + 1), .ref (a + 2), .ref (a + 3), .ref (a + 4), .ref (a + 5), .int (v 75), .int (v 74)])
  | 1 => some (cI 8 (cut 8 fun i => v (0 + i)))
  | 2 => some (cI 6 (cut 6 fun i => v (8 + i)))
  | 3 => some (cI 6 (cut 6 fun i => v (14 + i)))
  | 4 => some (cI 6 (cut 6 fun i => v (20 + i)))
  | 5 => some (cI 48 (cut 48 fun i => v (26 + i)))
  | _ => none
def lwC (w : Nat) (s : rT) : Nat → Option pC
  | 0 => some (cO 1 [.ref (w + 1), .ref (w + 2), .ref (w + 3), .int (s.1 53)])
  | 1 => some (cI 150 (cut 150 (s.2 21)))
  | 2 => some (cI 64 (cut 64 (s.2 22)))
  | 3 => some (cI 8 (cut 8 (s.2 23)))
  | _ => none
def suC (u : Nat) (s : rT) : Nat → Option pC
  | 0 => some (cO 7 [.ref (u + 1), .ref (u + 2), .ref (u + 3), .ref (u + 4), .int (s.1 44), .int (s.1 45), .int (s.1 46), .int (s.1 47), .int (s.1 48)])
  | 1 => some (cI 8 (cut 8 (s.2 11)))
  | 2 => some (cI 6 (cut 6 (s.2 12)))
  | 3 => some (cI 6 (cut 6 (s.2 13)))
  | 4 => some (cI 8 (cut 8 (s.2 14)))
  | _ => none
def bkC (k : Nat) (s : rT) : Nat → Option pC
  | 0 => some (cO 0 [.ref (k + 1), .int (s.1 61), .int (s.1 62)])
  | 1 => some (cI 8 (cut 8 (s.2 31)))
  | _ => none
def fxC (L : xA) (s : rT) : Nat → Option pC
  | 0 => some (cO 10 [.ref 1, .ref 3, .ref 6, .ref (aU L), .ref (aW L), .ref (aK L), .ref (aP L), .ref (aQ L), va_rf (aZ L), .int (s.1 9), .int (s.1 10), .int (s.1 11), .int (s.1 12), .int (s.1 13)])
  | 1 => some (cO 8 [.ref 2, .int (s.1 21), .int (s.1 22), .int (s.1 23), .int (s.1 24), .int (s.1 25), .int (s.1 26)])
  | 2 => some (cI 600 (cut 600 (s.2 2)))
  | 3 => some (cO 4 [.ref 4, .ref 5, .int (s.1 32), .int (s.1 33)])
  | 4 => some (cI 48 (cut 48 (s.2 4)))
  | 5 => some (cI 256 (cut 256 (s.2 5)))
  | 6 => some (cQ 3 (aI L))
  | _ => none
def yS (b : pS) (L : xA) (cp cq cw cu ck cf : Nat → Option pC) : pS := (b.1, b.2.1, fun j => if aP L ≤ j ∧ j < aP L + 6 then cp (j - aP L) else if aQ L ≤ j ∧ j < aQ L + 6 then cq (j - aQ L) else if aW L ≤ j ∧ j < aW L + 4 then cw (j - aW L) else if aU L ≤ j ∧ j < aU L + 5 then cu (j - aU L) else if aK L ≤ j ∧ j < aK L + 2 then ck (j - aK L) else if j < 7 then cf j else b.2.2 j)
def xS (b : pS) (L : xA) (s : rT) : pS := yS b L (scC (aP L) (aU L) (s.2 0)) (scC (aQ L) (aU L) (s.2 1)) (lwC (aW L) s) (suC (aU L) s) (bkC (aK L) s) (fxC L s)
def dj (a n c m : Nat) : Prop := a + n ≤ c ∨ c + m ≤ a
/-- the places lie apart -/
def Dj (L : xA) : Prop := (7 ≤ aP L ∧ 7 ≤ aQ L ∧ 7 ≤ aW L ∧ 7 ≤ aU L ∧ 7 ≤ aK L) ∧ dj (aQ L) 6 (aP L) 6 ∧ (dj (aW L) 4 (aP L) 6 ∧ dj (aW L) 4 (aQ L) 6) ∧ (dj (aU L) 5 (aP L) 6 ∧ dj (aU L) 5 (aQ L) 6 ∧ dj (aU L) 5 (aW L) 4) ∧ (dj (aK L) 2 (aP L) 6 ∧ dj (aK L) 2 (aQ L) 6 ∧ dj (aK L) 2 (aW L) 4 ∧ dj (aK L) 2 (aU L) 5) ∧ (dj (aP L) 6 30 29 ∧ dj (aQ L) 6 30 29 ∧ dj (aW L) 4 30 29 ∧ dj (aU L) 5 30 29 ∧ dj (aK L) 2 30 29)
theorem dj_n {a n c m i : Nat} (h : dj a n c m) (hi : i < n) : ¬ (c ≤ a + i ∧ a + i < c + m) := by unfold dj at h; omega
theorem yS_p {b : pS} {L : xA} {cp cq cw cu ck cf : Nat → Option pC} {i : Nat} (hi : i < 6) : (yS b L cp cq cw cu ck cf).2.2 (aP L + i) = cp i := by
  show (if _ then _ else _) = _
  rw [if_pos (by omega), Nat.add_sub_cancel_left]
theorem yS_q {b : pS} {L : xA} {cp cq cw cu ck cf : Nat → Option pC} (D : Dj L) {i : Nat} (hi : i < 6) : (yS b L cp cq cw cu ck cf).2.2 (aQ L + i) = cq i := by
  show (if _ then _ else _) = _
  rw [if_neg (dj_n D.2.1 hi), if_pos (by omega), Nat.add_sub_cancel_left]
theorem yS_w {b : pS} {L : xA} {cp cq cw cu ck cf : Nat → Option pC} (D : Dj L) {i : Nat} (hi : i < 4) : (yS b L cp cq cw cu ck cf).2.2 (aW L + i) = cw i := by
  show (if _ then _ else _) = _
  rw [if_neg (dj_n D.2.2.1.1 hi), if_neg (dj_n D.2.2.1.2 hi), if_pos (by omega), Nat.add_sub_cancel_left]
theorem yS_u {b : pS} {L : xA} {cp cq cw cu ck cf : Nat → Option pC} (D : Dj L) {i : Nat} (hi : i < 5) : (yS b L cp cq cw cu ck cf).2.2 (aU L + i) = cu i := by
  show (if _ then _ else _) = _
  rw [if_neg (dj_n D.2.2.2.1.1 hi), if_neg (dj_n D.2.2.2.1.2.1 hi), if_neg (dj_n D.2.2.2.1.2.2 hi), if_pos (by omega), Nat.add_sub_cancel_left]
theorem yS_k {b : pS} {L : xA} {cp cq cw cu ck cf : Nat → Option pC} (D : Dj L) {i : Nat} (hi : i < 2) : (yS b L cp cq cw cu ck cf).2.2 (aK L + i) = ck i := by
  show (if _ then _ else _) = _
  rw [if_neg (dj_n D.2.2.2.2.1.1 hi), if_neg (dj_n D.2.2.2.2.1.2.1 hi), if_neg (dj_n D.2.2.2.2.1.2.2.1 hi), if_neg (dj_n D.2.2.2.2.1.2.2.2 hi), if_pos (by omega), Nat.add_sub_cancel_left]
theorem yS_f {b : pS} {L : xA} {cp cq cw cu ck cf : Nat → Option pC} (D : Dj L) {i : Nat} (hi : i < 7) : (yS b L cp cq cw cu ck cf).2.2 i = cf i := by
  obtain ⟨⟨h1, h2, h3, h4, h5⟩, _⟩ := D
  show (if _ then _ else _) = _
  rw [if_neg (by omega), if_neg (by omega), if_neg (by omega), if_neg (by omega), if_neg (by omega), if_pos hi]
/-- a place outside -/
def Ot (L : xA) (j : Nat) : Prop := 7 ≤ j ∧ ¬ (aP L ≤ j ∧ j < aP L + 6) ∧ ¬ (aQ L ≤ j ∧ j < aQ L + 6) ∧ ¬ (aW L ≤ j ∧ j < aW L + 4) ∧ ¬ (aU L ≤ j ∧ j < aU L + 5) ∧ ¬ (aK L ≤ j ∧ j < aK L + 2)
theorem yS_o {b : pS} {L : xA} {cp cq cw cu ck cf : Nat → Option pC} {j : Nat} (h : Ot L j) : (yS b L cp cq cw cu ck cf).2.2 j = b.2.2 j := by
  obtain ⟨h0, h1, h2, h3, h4, h5⟩ := h
  show (if _ then _ else _) = _
  rw [if_neg h1, if_neg h2, if_neg h3, if_neg h4, if_neg h5, if_neg (by omega)]
theorem xS_o {b : pS} {L : xA} {s : rT} {j : Nat} (h : Ot L j) : (xS b L s).2.2 j = b.2.2 j := yS_o h
theorem Ot_ref {L : xA} (D : Dj L) {j : Nat} (h1 : 30 ≤ j) (h2 : j < 59) : Ot L j := by
  obtain ⟨⟨g1, g2, g3, g4, g5⟩, -, -, -, -, e1, e2, e3, e4, e5⟩ := D
  unfold dj at e1 e2 e3 e4 e5
  refine ⟨by omega, ?_, ?_, ?_, ?_, ?_⟩ <;> omega
def upo (f : Nat → Option pC) (k : Nat) (c : pC) : Nat → Option pC := fun j => if j = k then some c else f j
theorem sub_ne {a i j : Nat} (h1 : a ≤ j) (h : j ≠ a + i) : j - a ≠ i := by omega

theorem yS_sp {b : pS} {L : xA} {cp cq cw cu ck cf : Nat → Option pC} {i : Nat} (hi : i < 6) (c : pC) : pSet (yS b L cp cq cw cu ck cf) (aP L + i) c = yS b L (upo cp i c) cq cw cu ck cf := by
  have e := yS_p (b := b) (L := L) (cp := (upo cp i c)) (cq := cq) (cw := cw) (cu := cu) (ck := ck) (cf := cf) hi
  refine congrArg (fun z => (b.1, b.2.1, z)) (funext fun j => ?_)
  show (if j = (aP L + i) then some c else _) = _
  by_cases h : j = (aP L + i)
  · rw [if_pos h]; subst h; refine Eq.trans ?_ e.symm; show some c = if i = i then some c else _; rw [if_pos rfl]
  · rw [if_neg h]
    show (if _ then _ else _) = (if _ then _ else _)
    by_cases g : aP L ≤ j ∧ j < aP L + 6
    · rw [if_pos g, if_pos g]; show _ = if j - aP L = i then some c else _; rw [if_neg (sub_ne g.1 h)]
    · rw [if_neg g, if_neg g]

theorem yS_sq {b : pS} {L : xA} {cp cq cw cu ck cf : Nat → Option pC} (D : Dj L) {i : Nat} (hi : i < 6) (c : pC) : pSet (yS b L cp cq cw cu ck cf) (aQ L + i) c = yS b L cp (upo cq i c) cw cu ck cf := by
  have e := yS_q (b := b) (L := L) (cp := cp) (cq := (upo cq i c)) (cw := cw) (cu := cu) (ck := ck) (cf := cf) D hi
  refine congrArg (fun z => (b.1, b.2.1, z)) (funext fun j => ?_)
  show (if j = (aQ L + i) then some c else _) = _
  by_cases h : j = (aQ L + i)
  · rw [if_pos h]; subst h; refine Eq.trans ?_ e.symm; show some c = if i = i then some c else _; rw [if_pos rfl]
  · rw [if_neg h]
    show (if _ then _ else _) = (if _ then _ else _)
    by_cases g0 : aP L ≤ j ∧ j < aP L + 6
    · rw [if_pos g0, if_pos g0]
    rw [if_neg g0, if_neg g0]
    by_cases g : aQ L ≤ j ∧ j < aQ L + 6
    · rw [if_pos g, if_pos g]; show _ = if j - aQ L = i then some c else _; rw [if_neg (sub_ne g.1 h)]
    · rw [if_neg g, if_neg g]

theorem yS_sw {b : pS} {L : xA} {cp cq cw cu ck cf : Nat → Option pC} (D : Dj L) {i : Nat} (hi : i < 4) (c : pC) : pSet (yS b L cp cq cw cu ck cf) (aW L + i) c = yS b L cp cq (upo cw i c) cu ck cf := by
  have e := yS_w (b := b) (L := L) (cp := cp) (cq := cq) (cw := (upo cw i c)) (cu := cu) (ck := ck) (cf := cf) D hi
  refine congrArg (fun z => (b.1, b.2.1, z)) (funext fun j => ?_)
  show (if j = (aW L + i) then some c else _) = _
  by_cases h : j = (aW L + i)
  · rw [if_pos h]; subst h; refine Eq.trans ?_ e.symm; show some c = if i = i then some c else _; rw [if_pos rfl]
  · rw [if_neg h]
    show (if _ then _ else _) = (if _ then _ else _)
    by_cases g0 : aP L ≤ j ∧ j < aP L + 6
    · rw [if_pos g0, if_pos g0]
    rw [if_neg g0, if_neg g0]
    by_cases g1 : aQ L ≤ j ∧ j < aQ L + 6
    · rw [if_pos g1, if_pos g1]
    rw [if_neg g1, if_neg g1]
    by_cases g : aW L ≤ j ∧ j < aW L + 4
    · rw [if_pos g, if_pos g]; show _ = if j - aW L = i then some c else _; rw [if_neg (sub_ne g.1 h)]
    · rw [if_neg g, if_neg g]

theorem yS_su {b : pS} {L : xA} {cp cq cw cu ck cf : Nat → Option pC} (D : Dj L) {i : Nat} (hi : i < 5) (c : pC) : pSet (yS b L cp cq cw cu ck cf) (aU L + i) c = yS b L cp cq cw (upo cu i c) ck cf := by
  have e := yS_u (b := b) (L := L) (cp := cp) (cq := cq) (cw := cw) (cu := (upo cu i c)) (ck := ck) (cf := cf) D hi
  refine congrArg (fun z => (b.1, b.2.1, z)) (funext fun j => ?_)
  show (if j = (aU L + i) then some c else _) = _
  by_cases h : j = (aU L + i)
  · rw [if_pos h]; subst h; refine Eq.trans ?_ e.symm; show some c = if i = i then some c else _; rw [if_pos rfl]
  · rw [if_neg h]
    show (if _ then _ else _) = (if _ then _ else _)
    by_cases g0 : aP L ≤ j ∧ j < aP L + 6
    · rw [if_pos g0, if_pos g0]
    rw [if_neg g0, if_neg g0]
    by_cases g1 : aQ L ≤ j ∧ j < aQ L + 6
    · rw [if_pos g1, if_pos g1]
    rw [if_neg g1, if_neg g1]
    by_cases g2 : aW L ≤ j ∧ j < aW L + 4
    · rw [if_pos g2, if_pos g2]
    rw [if_neg g2, if_neg g2]
    by_cases g : aU L ≤ j ∧ j < aU L + 5
    · rw [if_pos g, if_pos g]; show _ = if j - aU L = i then some c else _; rw [if_neg (sub_ne g.1 h)]
    · rw [if_neg g, if_neg g]

theorem yS_sk {b : pS} {L : xA} {cp cq cw cu ck cf : Nat → Option pC} (D : Dj L) {i : Nat} (hi : i < 2) (c : pC) : pSet (yS b L cp cq cw cu ck cf) (aK L + i) c = yS b L cp cq cw cu (upo ck i c) cf := by
  have e := yS_k (b := b) (L := L) (cp := cp) (cq := cq) (cw := cw) (cu := cu) (ck := (upo ck i c)) (cf := cf) D hi
  refine congrArg (fun z => (b.1, b.2.1, z)) (funext fun j => ?_)
  show (if j = (aK L + i) then some c else _) = _
  by_cases h : j = (aK L + i)
  · rw [if_pos h]; subst h; refine Eq.trans ?_ e.symm; show some c = if i = i then some c else _; rw [if_pos rfl]
  · rw [if_neg h]
    show (if _ then _ else _) = (if _ then _ else _)
    by_cases g0 : aP L ≤ j ∧ j < aP L + 6
    · rw [if_pos g0, if_pos g0]
    rw [if_neg g0, if_neg g0]
    by_cases g1 : aQ L ≤ j ∧ j < aQ L + 6
    · rw [if_pos g1, if_pos g1]
    rw [if_neg g1, if_neg g1]
    by_cases g2 : aW L ≤ j ∧ j < aW L + 4
    · rw [if_pos g2, if_pos g2]
    rw [if_neg g2, if_neg g2]
    by_cases g3 : aU L ≤ j ∧ j < aU L + 5
    · rw [if_pos g3, if_pos g3]
    rw [if_neg g3, if_neg g3]
    by_cases g : aK L ≤ j ∧ j < aK L + 2
    · rw [if_pos g, if_pos g]; show _ = if j - aK L = i then some c else _; rw [if_neg (sub_ne g.1 h)]
    · rw [if_neg g, if_neg g]

theorem yS_sf {b : pS} {L : xA} {cp cq cw cu ck cf : Nat → Option pC} (D : Dj L) {i : Nat} (hi : i < 7) (c : pC) : pSet (yS b L cp cq cw cu ck cf) i c = yS b L cp cq cw cu ck (upo cf i c) := by
  have e := yS_f (b := b) (L := L) (cp := cp) (cq := cq) (cw := cw) (cu := cu) (ck := ck) (cf := (upo cf i c)) D hi
  refine congrArg (fun z => (b.1, b.2.1, z)) (funext fun j => ?_)
  show (if j = i then some c else _) = _
  by_cases h : j = i
  · rw [if_pos h]; subst h; refine Eq.trans ?_ e.symm; show some c = if j = j then some c else _; rw [if_pos rfl]
  · rw [if_neg h]
    show (if _ then _ else _) = (if _ then _ else _)
    by_cases g0 : aP L ≤ j ∧ j < aP L + 6
    · rw [if_pos g0, if_pos g0]
    rw [if_neg g0, if_neg g0]
    by_cases g1 : aQ L ≤ j ∧ j < aQ L + 6
    · rw [if_pos g1, if_pos g1]
    rw [if_neg g1, if_neg g1]
    by_cases g2 : aW L ≤ j ∧ j < aW L + 4
    · rw [if_pos g2, if_pos g2]
    rw [if_neg g2, if_neg g2]
    by_cases g3 : aU L ≤ j ∧ j < aU L + 5
    · rw [if_pos g3, if_pos g3]
    rw [if_neg g3, if_neg g3]
    by_cases g4 : aK L ≤ j ∧ j < aK L + 2
    · rw [if_pos g4, if_pos g4]
    rw [if_neg g4, if_neg g4]
    by_cases g : j < 7
    · rw [if_pos g, if_pos g]; show _ = if j = i then some c else _; rw [if_neg h]
    · rw [if_neg g, if_neg g]

theorem yS_so {b : pS} {L : xA} {cp cq cw cu ck cf : Nat → Option pC} {i : Nat} (h : Ot L i) (c : pC) : pSet (yS b L cp cq cw cu ck cf) i c = yS (pSet b i c) L cp cq cw cu ck cf := by
  refine congrArg (fun z => (b.1, b.2.1, z)) (funext fun j => ?_)
  show (if j = i then some c else _) = _
  by_cases e : j = i
  · subst e; rw [if_pos rfl]; refine Eq.trans ?_ (yS_o (b := pSet b j c) h).symm; show _ = (if j = j then some c else _); rw [if_pos rfl]
  · rw [if_neg e]
    show (if _ then _ else _) = (if _ then _ else _)
    by_cases g0 : aP L ≤ j ∧ j < aP L + 6
    · rw [if_pos g0, if_pos g0]
    rw [if_neg g0, if_neg g0]
    by_cases g1 : aQ L ≤ j ∧ j < aQ L + 6
    · rw [if_pos g1, if_pos g1]
    rw [if_neg g1, if_neg g1]
    by_cases g2 : aW L ≤ j ∧ j < aW L + 4
    · rw [if_pos g2, if_pos g2]
    rw [if_neg g2, if_neg g2]
    by_cases g3 : aU L ≤ j ∧ j < aU L + 5
    · rw [if_pos g3, if_pos g3]
    rw [if_neg g3, if_neg g3]
    by_cases g4 : aK L ≤ j ∧ j < aK L + 2
    · rw [if_pos g4, if_pos g4]
    rw [if_neg g4, if_neg g4]
    by_cases g5 : j < 7
    · rw [if_pos g5, if_pos g5]
    rw [if_neg g5, if_neg g5]
    show _ = (if j = i then some c else b.2.2 j)
    rw [if_neg e]
theorem xS_so {b : pS} {L : xA} {s : rT} {i : Nat} (h : Ot L i) (c : pC) : pSet (xS b L s) i c = xS (pSet b i c) L s := yS_so h c
theorem xS_1 (b : pS) (L : xA) (s : rT) : (xS b L s).1 = b.1 := id rfl
theorem xS_21 (b : pS) (L : xA) (s : rT) : (xS b L s).2.1 = b.2.1 := id rfl
theorem pF_at {s : pS} {q c : Nat} {fs : List Value} (h : s.2.2 q = some (cO c fs)) {k : Nat} (hk : k < fs.length) (v : Value) : pF s q c k v = some (pSet s q (cO c (fs.set k v))) := by
  unfold pF gO
  rw [h]
  simp only [if_true]
  rw [if_pos hk]
theorem gFi_at {s : pS} {q c : Nat} {fs : List Value} (h : s.2.2 q = some (cO c fs)) {k : Nat} {v : Int32} (hk : fs[k]? = some (.int v)) : gFi s q c k = some v := by
  unfold gFi gO
  rw [h]
  simp only [if_true, hk]
theorem gFr_at {s : pS} {q c : Nat} {fs : List Value} (h : s.2.2 q = some (cO c fs)) {k : Nat} {v : Nat} (hk : fs[k]? = some (.ref v)) : gFr s q c k = some v := by
  unfold gFr gO
  rw [h]
  simp only [if_true, hk]
theorem gN_at {s : pS} {q n : Nat} {f : Nat → Int32} (h : s.2.2 q = some (cI n f)) : gN s q = some (Int32.ofNat n) := by
  unfold gN; rw [h]
theorem isO_at {s : pS} {q c : Nat} {fs : List Value} (h : s.2.2 q = some (cO c fs)) : isO s q c = true := by
  unfold isO; rw [h]; exact Nat.beq_refl c
theorem cut_o {n o j : Nat} {v : Nat → Int32} {x : Int32} (h : ∀ i, i < n → o + i ≠ j) : cut n (fun i => upd v j x (o + i)) = cut n (fun i => v (o + i)) := cut_eq fun i hi => by show (if o + i = j then x else v (o + i)) = _; rw [if_neg (h i hi)]
theorem cut_i {n o k : Nat} {v : Nat → Int32} {x : Int32} (hk : k < n) : upd (cut n fun i => v (o + i)) k x = cut n (fun i => upd v (o + k) x (o + i)) := by
  rw [cut_upd _ _ hk]
  refine cut_eq fun i hi => ?_
  show (if i = k then x else v (o + i)) = (if o + i = o + k then x else v (o + i))
  by_cases h : i = k
  · rw [if_pos h, if_pos (by omega)]
  · rw [if_neg h, if_neg (by omega)]
theorem upd_ne {v : Nat → Int32} {j i : Nat} {x : Int32} (h : i ≠ j) : upd v j x i = v i := if_neg h

theorem scC_1 {a u : Nat} {v : Nat → Int32} {k : Nat} {x : Int32} (hk : k < 8) : scC a u (upd v (0 + k) x) = upo (scC a u v) 1 (cI 8 (upd (cut 8 fun i => v (0 + i)) k x)) := by
  funext i
  rcases i with _ | _ | _ | _ | _ | _ | i
  · show some (cO 5 [.ref u, .ref (a + 1), .ref (a + 2), .ref (a + 3), .ref (a + 4), .ref (a + 5), .int (upd v (0 + k) x 75), .int (upd v (0 + k) x 74)]) = some (cO 5 [.ref u, .ref (a + 1), .ref (a + 2), .ref (a + 3), .ref (a + 4), .ref (a + 5), .int (v 75), .int (v 74)])
    rw [upd_ne (by omega), upd_ne (by omega)]
  · show some (cI 8 (cut 8 fun i => upd v (0 + k) x (0 + i))) = some (cI 8 (upd (cut 8 fun i => v (0 + i)) k x))
    rw [cut_i hk]
  · show some (cI 6 (cut 6 fun i => upd v (0 + k) x (8 + i))) = some (cI 6 (cut 6 fun i => v (8 + i)))
    rw [cut_o (fun i hi => by omega)]
  · show some (cI 6 (cut 6 fun i => upd v (0 + k) x (14 + i))) = some (cI 6 (cut 6 fun i => v (14 + i)))
    rw [cut_o (fun i hi => by omega)]
  · show some (cI 6 (cut 6 fun i => upd v (0 + k) x (20 + i))) = some (cI 6 (cut 6 fun i => v (20 + i)))
    rw [cut_o (fun i hi => by omega)]
  · show some (cI 48 (cut 48 fun i => upd v (0 + k) x (26 + i))) = some (cI 48 (cut 48 fun i => v (26 + i)))
    rw [cut_o (fun i hi => by omega)]
  · rfl

theorem scC_2 {a u : Nat} {v : Nat → Int32} {k : Nat} {x : Int32} (hk : k < 6) : scC a u (upd v (8 + k) x) = upo (scC a u v) 2 (cI 6 (upd (cut 6 fun i => v (8 + i)) k x)) := by
  funext i
  rcases i with _ | _ | _ | _ | _ | _ | i
  · show some (cO 5 [.ref u, .ref (a + 1), .ref (a + 2), .ref (a + 3), .ref (a + 4), .ref (a + 5), .int (upd v (8 + k) x 75), .int (upd v (8 + k) x 74)]) = some (cO 5 [.ref u, .ref (a + 1), .ref (a + 2), .ref (a + 3), .ref (a + 4), .ref (a + 5), .int (v 75), .int (v 74)])
    rw [upd_ne (by omega), upd_ne (by omega)]
  · show some (cI 8 (cut 8 fun i => upd v (8 + k) x (0 + i))) = some (cI 8 (cut 8 fun i => v (0 + i)))
    rw [cut_o (fun i hi => by omega)]
  · show some (cI 6 (cut 6 fun i => upd v (8 + k) x (8 + i))) = some (cI 6 (upd (cut 6 fun i => v (8 + i)) k x))
    rw [cut_i hk]
  · show some (cI 6 (cut 6 fun i => upd v (8 + k) x (14 + i))) = some (cI 6 (cut 6 fun i => v (14 + i)))
    rw [cut_o (fun i hi => by omega)]
  · show some (cI 6 (cut 6 fun i => upd v (8 + k) x (20 + i))) = some (cI 6 (cut 6 fun i => v (20 + i)))
    rw [cut_o (fun i hi => by omega)]
  · show some (cI 48 (cut 48 fun i => upd v (8 + k) x (26 + i))) = some (cI 48 (cut 48 fun i => v (26 + i)))
    rw [cut_o (fun i hi => by omega)]
  · rfl

theorem scC_3 {a u : Nat} {v : Nat → Int32} {k : Nat} {x : Int32} (hk : k < 6) : scC a u (upd v (14 + k) x) = upo (scC a u v) 3 (cI 6 (upd (cut 6 fun i => v (14 + i)) k x)) := by
  funext i
  rcases i with _ | _ | _ | _ | _ | _ | i
  · show some (cO 5 [.ref u, .ref (a + 1), .ref (a + 2), .ref (a + 3), .ref (a + 4), .ref (a + 5), .int (upd v (14 + k) x 75), .int (upd v (14 + k) x 74)]) = some (cO 5 [.ref u, .ref (a + 1), .ref (a + 2), .ref (a + 3), .ref (a + 4), .ref (a + 5), .int (v 75), .int (v 74)])
    rw [upd_ne (by omega), upd_ne (by omega)]
  · show some (cI 8 (cut 8 fun i => upd v (14 + k) x (0 + i))) = some (cI 8 (cut 8 fun i => v (0 + i)))
    rw [cut_o (fun i hi => by omega)]
  · show some (cI 6 (cut 6 fun i => upd v (14 + k) x (8 + i))) = some (cI 6 (cut 6 fun i => v (8 + i)))
    rw [cut_o (fun i hi => by omega)]
  · show some (cI 6 (cut 6 fun i => upd v (14 + k) x (14 + i))) = some (cI 6 (upd (cut 6 fun i => v (14 + i)) k x))
    rw [cut_i hk]
  · show some (cI 6 (cut 6 fun i => upd v (14 + k) x (20 + i))) = some (cI 6 (cut 6 fun i => v (20 + i)))
    rw [cut_o (fun i hi => by omega)]
  · show some (cI 48 (cut 48 fun i => upd v (14 + k) x (26 + i))) = some (cI 48 (cut 48 fun i => v (26 + i)))
    rw [cut_o (fun i hi => by omega)]
  · rfl

theorem scC_4 {a u : Nat} {v : Nat → Int32} {k : Nat} {x : Int32} (hk : k < 6) : scC a u (upd v (20 + k) x) = upo (scC a u v) 4 (cI 6 (upd (cut 6 fun i => v (20 + i)) k x)) := by
  funext i
  rcases i with _ | _ | _ | _ | _ | _ | i
  · show some (cO 5 [.ref u, .ref (a + 1), .ref (a + 2), .ref (a + 3), .ref (a + 4), .ref (a + 5), .int (upd v (20 + k) x 75), .int (upd v (20 + k) x 74)]) = some (cO 5 [.ref u, .ref (a + 1), .ref (a + 2), .ref (a + 3), .ref (a + 4), .ref (a + 5), .int (v 75), .int (v 74)])
    rw [upd_ne (by omega), upd_ne (by omega)]
  · show some (cI 8 (cut 8 fun i => upd v (20 + k) x (0 + i))) = some (cI 8 (cut 8 fun i => v (0 + i)))
    rw [cut_o (fun i hi => by omega)]
  · show some (cI 6 (cut 6 fun i => upd v (20 + k) x (8 + i))) = some (cI 6 (cut 6 fun i => v (8 + i)))
    rw [cut_o (fun i hi => by omega)]
  · show some (cI 6 (cut 6 fun i => upd v (20 + k) x (14 + i))) = some (cI 6 (cut 6 fun i => v (14 + i)))
    rw [cut_o (fun i hi => by omega)]
  · show some (cI 6 (cut 6 fun i => upd v (20 + k) x (20 + i))) = some (cI 6 (upd (cut 6 fun i => v (20 + i)) k x))
    rw [cut_i hk]
  · show some (cI 48 (cut 48 fun i => upd v (20 + k) x (26 + i))) = some (cI 48 (cut 48 fun i => v (26 + i)))
    rw [cut_o (fun i hi => by omega)]
  · rfl

theorem scC_5 {a u : Nat} {v : Nat → Int32} {k : Nat} {x : Int32} (hk : k < 48) : scC a u (upd v (26 + k) x) = upo (scC a u v) 5 (cI 48 (upd (cut 48 fun i => v (26 + i)) k x)) := by
  funext i
  rcases i with _ | _ | _ | _ | _ | _ | i
  · show some (cO 5 [.ref u, .ref (a + 1), .ref (a + 2), .ref (a + 3), .ref (a + 4), .ref (a + 5), .int (upd v (26 + k) x 75), .int (upd v (26 + k) x 74)]) = some (cO 5 [.ref u, .ref (a + 1), .ref (a + 2), .ref (a + 3), .ref (a + 4), .ref (a + 5), .int (v 75), .int (v 74)])
    rw [upd_ne (by omega), upd_ne (by omega)]
  · show some (cI 8 (cut 8 fun i => upd v (26 + k) x (0 + i))) = some (cI 8 (cut 8 fun i => v (0 + i)))
    rw [cut_o (fun i hi => by omega)]
  · show some (cI 6 (cut 6 fun i => upd v (26 + k) x (8 + i))) = some (cI 6 (cut 6 fun i => v (8 + i)))
    rw [cut_o (fun i hi => by omega)]
  · show some (cI 6 (cut 6 fun i => upd v (26 + k) x (14 + i))) = some (cI 6 (cut 6 fun i => v (14 + i)))
    rw [cut_o (fun i hi => by omega)]
  · show some (cI 6 (cut 6 fun i => upd v (26 + k) x (20 + i))) = some (cI 6 (cut 6 fun i => v (20 + i)))
    rw [cut_o (fun i hi => by omega)]
  · show some (cI 48 (cut 48 fun i => upd v (26 + k) x (26 + i))) = some (cI 48 (upd (cut 48 fun i => v (26 + i)) k x))
    rw [cut_i hk]
  · rfl

theorem scC_f6 {a u : Nat} {v : Nat → Int32} {x : Int32} : scC a u (upd v 75 x) = upo (scC a u v) 0 (cO 5 ([.ref u, .ref (a + 1), .ref (a + 2), .ref (a + 3), .ref (a + 4), .ref (a + 5), .int (v 75), .int (v 74)].set 6 (.int x))) := by
  funext i
  rcases i with _ | _ | _ | _ | _ | _ | i
  · rfl
  · show some (cI 8 (cut 8 fun i => upd v 75 x (0 + i))) = some (cI 8 (cut 8 fun i => v (0 + i)))
    rw [cut_o (fun i hi => by omega)]
  · show some (cI 6 (cut 6 fun i => upd v 75 x (8 + i))) = some (cI 6 (cut 6 fun i => v (8 + i)))
    rw [cut_o (fun i hi => by omega)]
  · show some (cI 6 (cut 6 fun i => upd v 75 x (14 + i))) = some (cI 6 (cut 6 fun i => v (14 + i)))
    rw [cut_o (fun i hi => by omega)]
  · show some (cI 6 (cut 6 fun i => upd v 75 x (20 + i))) = some (cI 6 (cut 6 fun i => v (20 + i)))
    rw [cut_o (fun i hi => by omega)]
  · show some (cI 48 (cut 48 fun i => upd v 75 x (26 + i))) = some (cI 48 (cut 48 fun i => v (26 + i)))
    rw [cut_o (fun i hi => by omega)]
  · rfl

theorem scC_f7 {a u : Nat} {v : Nat → Int32} {x : Int32} : scC a u (upd v 74 x) = upo (scC a u v) 0 (cO 5 ([.ref u, .ref (a + 1), .ref (a + 2), .ref (a + 3), .ref (a + 4), .ref (a + 5), .int (v 75), .int (v 74)].set 7 (.int x))) := by
  funext i
  rcases i with _ | _ | _ | _ | _ | _ | i
  · rfl
  · show some (cI 8 (cut 8 fun i => upd v 74 x (0 + i))) = some (cI 8 (cut 8 fun i => v (0 + i)))
    rw [cut_o (fun i hi => by omega)]
  · show some (cI 6 (cut 6 fun i => upd v 74 x (8 + i))) = some (cI 6 (cut 6 fun i => v (8 + i)))
    rw [cut_o (fun i hi => by omega)]
  · show some (cI 6 (cut 6 fun i => upd v 74 x (14 + i))) = some (cI 6 (cut 6 fun i => v (14 + i)))
    rw [cut_o (fun i hi => by omega)]
  · show some (cI 6 (cut 6 fun i => upd v 74 x (20 + i))) = some (cI 6 (cut 6 fun i => v (20 + i)))
    rw [cut_o (fun i hi => by omega)]
  · show some (cI 48 (cut 48 fun i => upd v 74 x (26 + i))) = some (cI 48 (cut 48 fun i => v (26 + i)))
    rw [cut_o (fun i hi => by omega)]
  · rfl

/-- a scene: now (0) or trial (1) -/
def SN (L : xA) (a z : Nat) : Prop := Dj L ∧ ((a = aP L ∧ z = 0) ∨ (a = aQ L ∧ z = 1))
theorem SN_p {L : xA} (D : Dj L) : SN L (aP L) 0 := ⟨D, Or.inl ⟨rfl, rfl⟩⟩
theorem SN_q {L : xA} (D : Dj L) : SN L (aQ L) 1 := ⟨D, Or.inr ⟨rfl, rfl⟩⟩
theorem sn_at {b : pS} {L : xA} {s : rT} {a z : Nat} (h : SN L a z) {i : Nat} (hi : i < 6) : (xS b L s).2.2 (a + i) = scC a (aU L) (s.2 z) i := by
  obtain ⟨D, ⟨rfl, rfl⟩ | ⟨rfl, rfl⟩⟩ := h
  · exact yS_p hi
  · exact yS_q D hi
theorem sn_set {b : pS} {L : xA} {s : rT} {a z : Nat} (h : SN L a z) {i : Nat} (hi : i < 6) {c : pC} {j : Nat} {x : Int32} (hc : scC a (aU L) (upd (s.2 z) j x) = upo (scC a (aU L) (s.2 z)) i c) : pSet (xS b L s) (a + i) c = xS b L (wA s z j x) := by
  obtain ⟨D, ⟨rfl, rfl⟩ | ⟨rfl, rfl⟩⟩ := h
  · refine (yS_sp hi c).trans ?_; rw [← hc]; rfl
  · refine (yS_sq D hi c).trans ?_; rw [← hc]; rfl
theorem sn_g1 {b : pS} {L : xA} {s : rT} {a z : Nat} (h : SN L a z) {k : Nat} (hk : k < 8) : gI (xS b L s) (a + 1) (Int32.ofNat k) = some (s.2 z (0 + k)) := by
  rw [gI_at (sn_at h (by decide)) hk (by decide), cut_lt _ hk]
theorem sn_p1 {b : pS} {L : xA} {s : rT} {a z : Nat} (h : SN L a z) {k : Nat} (hk : k < 8) (x : Int32) : pI (xS b L s) (a + 1) (Int32.ofNat k) x = some (xS b L (wA s z (0 + k) x)) := by
  rw [pI_at (sn_at h (by decide)) hk (by decide), sn_set h (by decide) (scC_1 hk)]
theorem sn_g2 {b : pS} {L : xA} {s : rT} {a z : Nat} (h : SN L a z) {k : Nat} (hk : k < 6) : gI (xS b L s) (a + 2) (Int32.ofNat k) = some (s.2 z (8 + k)) := by
  rw [gI_at (sn_at h (by decide)) hk (by decide), cut_lt _ hk]
theorem sn_p2 {b : pS} {L : xA} {s : rT} {a z : Nat} (h : SN L a z) {k : Nat} (hk : k < 6) (x : Int32) : pI (xS b L s) (a + 2) (Int32.ofNat k) x = some (xS b L (wA s z (8 + k) x)) := by
  rw [pI_at (sn_at h (by decide)) hk (by decide), sn_set h (by decide) (scC_2 hk)]
theorem sn_g3 {b : pS} {L : xA} {s : rT} {a z : Nat} (h : SN L a z) {k : Nat} (hk : k < 6) : gI (xS b L s) (a + 3) (Int32.ofNat k) = some (s.2 z (14 + k)) := by
  rw [gI_at (sn_at h (by decide)) hk (by decide), cut_lt _ hk]
theorem sn_p3 {b : pS} {L : xA} {s : rT} {a z : Nat} (h : SN L a z) {k : Nat} (hk : k < 6) (x : Int32) : pI (xS b L s) (a + 3) (Int32.ofNat k) x = some (xS b L (wA s z (14 + k) x)) := by
  rw [pI_at (sn_at h (by decide)) hk (by decide), sn_set h (by decide) (scC_3 hk)]
theorem sn_g4 {b : pS} {L : xA} {s : rT} {a z : Nat} (h : SN L a z) {k : Nat} (hk : k < 6) : gI (xS b L s) (a + 4) (Int32.ofNat k) = some (s.2 z (20 + k)) := by
  rw [gI_at (sn_at h (by decide)) hk (by decide), cut_lt _ hk]
theorem sn_p4 {b : pS} {L : xA} {s : rT} {a z : Nat} (h : SN L a z) {k : Nat} (hk : k < 6) (x : Int32) : pI (xS b L s) (a + 4) (Int32.ofNat k) x = some (xS b L (wA s z (20 + k) x)) := by
  rw [pI_at (sn_at h (by decide)) hk (by decide), sn_set h (by decide) (scC_4 hk)]
theorem sn_g5 {b : pS} {L : xA} {s : rT} {a z : Nat} (h : SN L a z) {k : Nat} (hk : k < 48) : gI (xS b L s) (a + 5) (Int32.ofNat k) = some (s.2 z (26 + k)) := by
  rw [gI_at (sn_at h (by decide)) hk (by decide), cut_lt _ hk]
theorem sn_p5 {b : pS} {L : xA} {s : rT} {a z : Nat} (h : SN L a z) {k : Nat} (hk : k < 48) (x : Int32) : pI (xS b L s) (a + 5) (Int32.ofNat k) x = some (xS b L (wA s z (26 + k) x)) := by
  rw [pI_at (sn_at h (by decide)) hk (by decide), sn_set h (by decide) (scC_5 hk)]
theorem sn_gI {b : pS} {L : xA} {s : rT} {a z : Nat} (h : SN L a z) : (∀ k, k < 8 → gI (xS b L s) (a + 1) (Int32.ofNat k) = some (s.2 z (0 + k))) ∧ (∀ k, k < 6 → gI (xS b L s) (a + 2) (Int32.ofNat k) = some (s.2 z (8 + k))) ∧ (∀ k, k < 6 → gI (xS b L s) (a + 3) (Int32.ofNat k) = some (s.2 z (14 + k))) ∧ (∀ k, k < 6 → gI (xS b L s) (a + 4) (Int32.ofNat k) = some (s.2 z (20 + k))) ∧ (∀ k, k < 48 → gI (xS b L s) (a + 5) (Int32.ofNat k) = some (s.2 z (26 + k))) := ⟨fun _ hk => sn_g1 h hk, fun _ hk => sn_g2 h hk, fun _ hk => sn_g3 h hk, fun _ hk => sn_g4 h hk, fun _ hk => sn_g5 h hk⟩
theorem sn_pI {b : pS} {L : xA} {s : rT} {a z : Nat} (h : SN L a z) : (∀ k x, k < 8 → pI (xS b L s) (a + 1) (Int32.ofNat k) x = some (xS b L (wA s z (0 + k) x))) ∧ (∀ k x, k < 6 → pI (xS b L s) (a + 2) (Int32.ofNat k) x = some (xS b L (wA s z (8 + k) x))) ∧ (∀ k x, k < 6 → pI (xS b L s) (a + 3) (Int32.ofNat k) x = some (xS b L (wA s z (14 + k) x))) ∧ (∀ k x, k < 6 → pI (xS b L s) (a + 4) (Int32.ofNat k) x = some (xS b L (wA s z (20 + k) x))) ∧ (∀ k x, k < 48 → pI (xS b L s) (a + 5) (Int32.ofNat k) x = some (xS b L (wA s z (26 + k) x))) := ⟨fun _ x hk => sn_p1 h hk x, fun _ x hk => sn_p2 h hk x, fun _ x hk => sn_p3 h hk x, fun _ x hk => sn_p4 h hk x, fun _ x hk => sn_p5 h hk x⟩
theorem sn_0 {b : pS} {L : xA} {s : rT} {a z : Nat} (h : SN L a z) : (xS b L s).2.2 a = some (cO 5 [.ref (aU L), .ref (a + 1), .ref (a + 2), .ref (a + 3), .ref (a + 4), .ref (a + 5), .int (s.2 z 75), .int (s.2 z 74)]) := sn_at (i := 0) h (by decide)
theorem sn_gF {b : pS} {L : xA} {s : rT} {a z : Nat} (h : SN L a z) : gFr (xS b L s) a 5 0 = some (aU L) ∧ gFr (xS b L s) a 5 1 = some (a + 1) ∧ gFr (xS b L s) a 5 2 = some (a + 2) ∧ gFr (xS b L s) a 5 3 = some (a + 3) ∧ gFr (xS b L s) a 5 4 = some (a + 4) ∧ gFr (xS b L s) a 5 5 = some (a + 5) ∧ gFi (xS b L s) a 5 6 = some (s.2 z 75) ∧ gFi (xS b L s) a 5 7 = some (s.2 z 74) := ⟨gFr_at (sn_0 h) rfl, gFr_at (sn_0 h) rfl, gFr_at (sn_0 h) rfl, gFr_at (sn_0 h) rfl, gFr_at (sn_0 h) rfl, gFr_at (sn_0 h) rfl, gFi_at (sn_0 h) rfl, gFi_at (sn_0 h) rfl⟩
theorem sn_pF {b : pS} {L : xA} {s : rT} {a z : Nat} (h : SN L a z) (x : Int32) : pF (xS b L s) a 5 6 (.int x) = some (xS b L (wA s z 75 x)) ∧ pF (xS b L s) a 5 7 (.int x) = some (xS b L (wA s z 74 x)) := ⟨by rw [pF_at (sn_0 h) (by show 6 < 8; decide)]; exact congrArg some (sn_set (i := 0) h (by decide) scC_f6), by rw [pF_at (sn_0 h) (by show 7 < 8; decide)]; exact congrArg some (sn_set (i := 0) h (by decide) scC_f7)⟩
theorem sn_gN {b : pS} {L : xA} {s : rT} {a z : Nat} (h : SN L a z) : gN (xS b L s) (a + 1) = some 8 ∧ gN (xS b L s) (a + 2) = some 6 ∧ gN (xS b L s) (a + 3) = some 6 ∧ gN (xS b L s) (a + 4) = some 6 ∧ gN (xS b L s) (a + 5) = some 48 := ⟨gN_at (sn_at (i := 1) h (by decide)), gN_at (sn_at (i := 2) h (by decide)), gN_at (sn_at (i := 3) h (by decide)), gN_at (sn_at (i := 4) h (by decide)), gN_at (sn_at (i := 5) h (by decide))⟩
theorem vS {d M : Nat} {as : List Value} {b : pS} {L : xA} {s : rT} {a z : Nat} (H : SN L a z) (h : mO M = 5) : vcall (d + 1) M (.ref a :: as) (xS b L s) = den d M 0 (ent M (.ref a :: as)) [] (xS b L s) := by
  have e : rcv M (.ref a :: as) (xS b L s) = true := by
    show isO (xS b L s) a (mO M) = true
    rw [h]; exact isO_at (sn_0 H)
  unfold vcall
  rw [e]
  rfl
theorem xw_0 {b : pS} {L : xA} {s : rT} (D : Dj L) : (xS b L s).2.2 (aW L) = some (cO 1 [.ref (aW L + 1), .ref (aW L + 2), .ref (aW L + 3), .int (s.1 53)]) := yS_w (i := 0) D (by decide)
theorem xw_1 {b : pS} {L : xA} {s : rT} (D : Dj L) : (xS b L s).2.2 (aW L + 1) = some (cI 150 (cut 150 (s.2 21))) := yS_w (i := 1) D (by decide)
theorem xw_2 {b : pS} {L : xA} {s : rT} (D : Dj L) : (xS b L s).2.2 (aW L + 2) = some (cI 64 (cut 64 (s.2 22))) := yS_w (i := 2) D (by decide)
theorem xw_3 {b : pS} {L : xA} {s : rT} (D : Dj L) : (xS b L s).2.2 (aW L + 3) = some (cI 8 (cut 8 (s.2 23))) := yS_w (i := 3) D (by decide)
theorem xw_gF {b : pS} {L : xA} {s : rT} (D : Dj L) : gFr (xS b L s) (aW L) 1 0 = some (aW L + 1) ∧ gFr (xS b L s) (aW L) 1 1 = some (aW L + 2) ∧ gFr (xS b L s) (aW L) 1 2 = some (aW L + 3) ∧ gFi (xS b L s) (aW L) 1 3 = some (s.1 53) := ⟨gFr_at (xw_0 D) rfl, gFr_at (xw_0 D) rfl, gFr_at (xw_0 D) rfl, gFi_at (xw_0 D) rfl⟩
theorem xw_gN {b : pS} {L : xA} {s : rT} (D : Dj L) : gN (xS b L s) (aW L + 1) = some 150 ∧ gN (xS b L s) (aW L + 2) = some 64 ∧ gN (xS b L s) (aW L + 3) = some 8 := ⟨gN_at (xw_1 D), gN_at (xw_2 D), gN_at (xw_3 D)⟩
theorem xw_gI {b : pS} {L : xA} {s : rT} (D : Dj L) : (∀ k, k < 150 → gI (xS b L s) (aW L + 1) (Int32.ofNat k) = some (s.2 21 k)) ∧ (∀ k, k < 64 → gI (xS b L s) (aW L + 2) (Int32.ofNat k) = some (s.2 22 k)) ∧ (∀ k, k < 8 → gI (xS b L s) (aW L + 3) (Int32.ofNat k) = some (s.2 23 k)) := ⟨fun _ hk => by rw [gI_at (xw_1 D) hk (by decide), cut_lt _ hk], fun _ hk => by rw [gI_at (xw_2 D) hk (by decide), cut_lt _ hk], fun _ hk => by rw [gI_at (xw_3 D) hk (by decide), cut_lt _ hk]⟩
theorem xw_s1 {b : pS} {L : xA} {s : rT} (D : Dj L) {k : Nat} (hk : k < 150) (x : Int32) : pI (xS b L s) (aW L + 1) (Int32.ofNat k) x = some (xS b L (wA s 21 k x)) := by
  rw [pI_at (xw_1 D) hk (by decide), cut_upd _ _ hk]
  refine congrArg some ((yS_sw (i := 1) D (by decide) _).trans ?_)
  have e : upo (lwC (aW L) s) 1 (cI 150 (cut 150 (upd (s.2 21) k x))) = lwC (aW L) (wA s 21 k x) := by
    funext i
    rcases i with _ | _ | _ | _ | i
    all_goals rfl
  rw [e]
  rfl
theorem xw_s2 {b : pS} {L : xA} {s : rT} (D : Dj L) {k : Nat} (hk : k < 64) (x : Int32) : pI (xS b L s) (aW L + 2) (Int32.ofNat k) x = some (xS b L (wA s 22 k x)) := by
  rw [pI_at (xw_2 D) hk (by decide), cut_upd _ _ hk]
  refine congrArg some ((yS_sw (i := 2) D (by decide) _).trans ?_)
  have e : upo (lwC (aW L) s) 2 (cI 64 (cut 64 (upd (s.2 22) k x))) = lwC (aW L) (wA s 22 k x) := by
    funext i
    rcases i with _ | _ | _ | _ | i
    all_goals rfl
  rw [e]
  rfl
theorem xw_s3 {b : pS} {L : xA} {s : rT} (D : Dj L) {k : Nat} (hk : k < 8) (x : Int32) : pI (xS b L s) (aW L + 3) (Int32.ofNat k) x = some (xS b L (wA s 23 k x)) := by
  rw [pI_at (xw_3 D) hk (by decide), cut_upd _ _ hk]
  refine congrArg some ((yS_sw (i := 3) D (by decide) _).trans ?_)
  have e : upo (lwC (aW L) s) 3 (cI 8 (cut 8 (upd (s.2 23) k x))) = lwC (aW L) (wA s 23 k x) := by
    funext i
    rcases i with _ | _ | _ | _ | i
    all_goals rfl
  rw [e]
  rfl
theorem xw_pI {b : pS} {L : xA} {s : rT} (D : Dj L) : (∀ k x, k < 150 → pI (xS b L s) (aW L + 1) (Int32.ofNat k) x = some (xS b L (wA s 21 k x))) ∧ (∀ k x, k < 64 → pI (xS b L s) (aW L + 2) (Int32.ofNat k) x = some (xS b L (wA s 22 k x))) ∧ (∀ k x, k < 8 → pI (xS b L s) (aW L + 3) (Int32.ofNat k) x = some (xS b L (wA s 23 k x))) := ⟨fun _ x hk => xw_s1 D hk x, fun _ x hk => xw_s2 D hk x, fun _ x hk => xw_s3 D hk x⟩
theorem xw_f3 {b : pS} {L : xA} {s : rT} (D : Dj L) (x : Int32) : pF (xS b L s) (aW L) 1 3 (.int x) = some (xS b L (wF s 53 x)) := by
  rw [pF_at (xw_0 D) (by show 3 < 4; decide)]
  refine congrArg some ((yS_sw (i := 0) D (by decide) _).trans ?_)
  have e : upo (lwC (aW L) s) 0 (cO 1 ([.ref (aW L + 1), .ref (aW L + 2), .ref (aW L + 3), .int (s.1 53)].set 3 (.int x))) = lwC (aW L) (wF s 53 x) := by
    funext i
    rcases i with _ | _ | _ | _ | i
    all_goals rfl
  rw [e]
  rfl
theorem xw_pF {b : pS} {L : xA} {s : rT} (D : Dj L) (x : Int32) : pF (xS b L s) (aW L) 1 3 (.int x) = some (xS b L (wF s 53 x)) ∧ True := ⟨xw_f3 D x, trivial⟩
theorem vW {d M : Nat} {as : List Value} {b : pS} {L : xA} {s : rT} (D : Dj L) (h : mO M = 1) : vcall (d + 1) M (.ref (aW L) :: as) (xS b L s) = den d M 0 (ent M (.ref (aW L) :: as)) [] (xS b L s) := by
  have e : rcv M (.ref (aW L) :: as) (xS b L s) = true := by
    show isO (xS b L s) (aW L) (mO M) = true
    rw [h]; exact isO_at (xw_0 D)
  unfold vcall
  rw [e]
  rfl
theorem xu_0 {b : pS} {L : xA} {s : rT} (D : Dj L) : (xS b L s).2.2 (aU L) = some (cO 7 [.ref (aU L + 1), .ref (aU L + 2), .ref (aU L + 3), .ref (aU L + 4), .int (s.1 44), .int (s.1 45), .int (s.1 46), .int (s.1 47), .int (s.1 48)]) := yS_u (i := 0) D (by decide)
theorem xu_1 {b : pS} {L : xA} {s : rT} (D : Dj L) : (xS b L s).2.2 (aU L + 1) = some (cI 8 (cut 8 (s.2 11))) := yS_u (i := 1) D (by decide)
theorem xu_2 {b : pS} {L : xA} {s : rT} (D : Dj L) : (xS b L s).2.2 (aU L + 2) = some (cI 6 (cut 6 (s.2 12))) := yS_u (i := 2) D (by decide)
theorem xu_3 {b : pS} {L : xA} {s : rT} (D : Dj L) : (xS b L s).2.2 (aU L + 3) = some (cI 6 (cut 6 (s.2 13))) := yS_u (i := 3) D (by decide)
theorem xu_4 {b : pS} {L : xA} {s : rT} (D : Dj L) : (xS b L s).2.2 (aU L + 4) = some (cI 8 (cut 8 (s.2 14))) := yS_u (i := 4) D (by decide)
theorem xu_gF {b : pS} {L : xA} {s : rT} (D : Dj L) : gFr (xS b L s) (aU L) 7 0 = some (aU L + 1) ∧ gFr (xS b L s) (aU L) 7 1 = some (aU L + 2) ∧ gFr (xS b L s) (aU L) 7 2 = some (aU L + 3) ∧ gFr (xS b L s) (aU L) 7 3 = some (aU L + 4) ∧ gFi (xS b L s) (aU L) 7 4 = some (s.1 44) ∧ gFi (xS b L s) (aU L) 7 5 = some (s.1 45) ∧ gFi (xS b L s) (aU L) 7 6 = some (s.1 46) ∧ gFi (xS b L s) (aU L) 7 7 = some (s.1 47) ∧ gFi (xS b L s) (aU L) 7 8 = some (s.1 48) := ⟨gFr_at (xu_0 D) rfl, gFr_at (xu_0 D) rfl, gFr_at (xu_0 D) rfl, gFr_at (xu_0 D) rfl, gFi_at (xu_0 D) rfl, gFi_at (xu_0 D) rfl, gFi_at (xu_0 D) rfl, gFi_at (xu_0 D) rfl, gFi_at (xu_0 D) rfl⟩
theorem xu_gN {b : pS} {L : xA} {s : rT} (D : Dj L) : gN (xS b L s) (aU L + 1) = some 8 ∧ gN (xS b L s) (aU L + 2) = some 6 ∧ gN (xS b L s) (aU L + 3) = some 6 ∧ gN (xS b L s) (aU L + 4) = some 8 := ⟨gN_at (xu_1 D), gN_at (xu_2 D), gN_at (xu_3 D), gN_at (xu_4 D)⟩
theorem xu_gI {b : pS} {L : xA} {s : rT} (D : Dj L) : (∀ k, k < 8 → gI (xS b L s) (aU L + 1) (Int32.ofNat k) = some (s.2 11 k)) ∧ (∀ k, k < 6 → gI (xS b L s) (aU L + 2) (Int32.ofNat k) = some (s.2 12 k)) ∧ (∀ k, k < 6 → gI (xS b L s) (aU L + 3) (Int32.ofNat k) = some (s.2 13 k)) ∧ (∀ k, k < 8 → gI (xS b L s) (aU L + 4) (Int32.ofNat k) = some (s.2 14 k)) := ⟨fun _ hk => by rw [gI_at (xu_1 D) hk (by decide), cut_lt _ hk], fun _ hk => by rw [gI_at (xu_2 D) hk (by decide), cut_lt _ hk], fun _ hk => by rw [gI_at (xu_3 D) hk (by decide), cut_lt _ hk], fun _ hk => by rw [gI_at (xu_4 D) hk (by decide), cut_lt _ hk]⟩
theorem xu_s1 {b : pS} {L : xA} {s : rT} (D : Dj L) {k : Nat} (hk : k < 8) (x : Int32) : pI (xS b L s) (aU L + 1) (Int32.ofNat k) x = some (xS b L (wA s 11 k x)) := by
  rw [pI_at (xu_1 D) hk (by decide), cut_upd _ _ hk]
  refine congrArg some ((yS_su (i := 1) D (by decide) _).trans ?_)
  have e : upo (suC (aU L) s) 1 (cI 8 (cut 8 (upd (s.2 11) k x))) = suC (aU L) (wA s 11 k x) := by
    funext i
    rcases i with _ | _ | _ | _ | _ | i
    all_goals rfl
  rw [e]
  rfl
theorem xu_s2 {b : pS} {L : xA} {s : rT} (D : Dj L) {k : Nat} (hk : k < 6) (x : Int32) : pI (xS b L s) (aU L + 2) (Int32.ofNat k) x = some (xS b L (wA s 12 k x)) := by
  rw [pI_at (xu_2 D) hk (by decide), cut_upd _ _ hk]
  refine congrArg some ((yS_su (i := 2) D (by decide) _).trans ?_)
  have e : upo (suC (aU L) s) 2 (cI 6 (cut 6 (upd (s.2 12) k x))) = suC (aU L) (wA s 12 k x) := by
    funext i
    rcases i with _ | _ | _ | _ | _ | i
    all_goals rfl
  rw [e]
  rfl
theorem xu_s3 {b : pS} {L : xA} {s : rT} (D : Dj L) {k : Nat} (hk : k < 6) (x : Int32) : pI (xS b L s) (aU L + 3) (Int32.ofNat k) x = some (xS b L (wA s 13 k x)) := by
  rw [pI_at (xu_3 D) hk (by decide), cut_upd _ _ hk]
  refine congrArg some ((yS_su (i := 3) D (by decide) _).trans ?_)
  have e : upo (suC (aU L) s) 3 (cI 6 (cut 6 (upd (s.2 13) k x))) = suC (aU L) (wA s 13 k x) := by
    funext i
    rcases i with _ | _ | _ | _ | _ | i
    all_goals rfl
  rw [e]
  rfl
theorem xu_s4 {b : pS} {L : xA} {s : rT} (D : Dj L) {k : Nat} (hk : k < 8) (x : Int32) : pI (xS b L s) (aU L + 4) (Int32.ofNat k) x = some (xS b L (wA s 14 k x)) := by
  rw [pI_at (xu_4 D) hk (by decide), cut_upd _ _ hk]
  refine congrArg some ((yS_su (i := 4) D (by decide) _).trans ?_)
  have e : upo (suC (aU L) s) 4 (cI 8 (cut 8 (upd (s.2 14) k x))) = suC (aU L) (wA s 14 k x) := by
    funext i
    rcases i with _ | _ | _ | _ | _ | i
    all_goals rfl
  rw [e]
  rfl
theorem xu_pI {b : pS} {L : xA} {s : rT} (D : Dj L) : (∀ k x, k < 8 → pI (xS b L s) (aU L + 1) (Int32.ofNat k) x = some (xS b L (wA s 11 k x))) ∧ (∀ k x, k < 6 → pI (xS b L s) (aU L + 2) (Int32.ofNat k) x = some (xS b L (wA s 12 k x))) ∧ (∀ k x, k < 6 → pI (xS b L s) (aU L + 3) (Int32.ofNat k) x = some (xS b L (wA s 13 k x))) ∧ (∀ k x, k < 8 → pI (xS b L s) (aU L + 4) (Int32.ofNat k) x = some (xS b L (wA s 14 k x))) := ⟨fun _ x hk => xu_s1 D hk x, fun _ x hk => xu_s2 D hk x, fun _ x hk => xu_s3 D hk x, fun _ x hk => xu_s4 D hk x⟩
theorem xu_f4 {b : pS} {L : xA} {s : rT} (D : Dj L) (x : Int32) : pF (xS b L s) (aU L) 7 4 (.int x) = some (xS b L (wF s 44 x)) := by
  rw [pF_at (xu_0 D) (by show 4 < 9; decide)]
  refine congrArg some ((yS_su (i := 0) D (by decide) _).trans ?_)
  have e : upo (suC (aU L) s) 0 (cO 7 ([.ref (aU L + 1), .ref (aU L + 2), .ref (aU L + 3), .ref (aU L + 4), .int (s.1 44), .int (s.1 45), .int (s.1 46), .int (s.1 47), .int (s.1 48)].set 4 (.int x))) = suC (aU L) (wF s 44 x) := by
    funext i
    rcases i with _ | _ | _ | _ | _ | i
    all_goals rfl
  rw [e]
  rfl
theorem xu_f5 {b : pS} {L : xA} {s : rT} (D : Dj L) (x : Int32) : pF (xS b L s) (aU L) 7 5 (.int x) = some (xS b L (wF s 45 x)) := by
  rw [pF_at (xu_0 D) (by show 5 < 9; decide)]
  refine congrArg some ((yS_su (i := 0) D (by decide) _).trans ?_)
  have e : upo (suC (aU L) s) 0 (cO 7 ([.ref (aU L + 1), .ref (aU L + 2), .ref (aU L + 3), .ref (aU L + 4), .int (s.1 44), .int (s.1 45), .int (s.1 46), .int (s.1 47), .int (s.1 48)].set 5 (.int x))) = suC (aU L) (wF s 45 x) := by
    funext i
    rcases i with _ | _ | _ | _ | _ | i
    all_goals rfl
  rw [e]
  rfl
theorem xu_f6 {b : pS} {L : xA} {s : rT} (D : Dj L) (x : Int32) : pF (xS b L s) (aU L) 7 6 (.int x) = some (xS b L (wF s 46 x)) := by
  rw [pF_at (xu_0 D) (by show 6 < 9; decide)]
  refine congrArg some ((yS_su (i := 0) D (by decide) _).trans ?_)
  have e : upo (suC (aU L) s) 0 (cO 7 ([.ref (aU L + 1), .ref (aU L + 2), .ref (aU L + 3), .ref (aU L + 4), .int (s.1 44), .int (s.1 45), .int (s.1 46), .int (s.1 47), .int (s.1 48)].set 6 (.int x))) = suC (aU L) (wF s 46 x) := by
    funext i
    rcases i with _ | _ | _ | _ | _ | i
    all_goals rfl
  rw [e]
  rfl
theorem xu_f7 {b : pS} {L : xA} {s : rT} (D : Dj L) (x : Int32) : pF (xS b L s) (aU L) 7 7 (.int x) = some (xS b L (wF s 47 x)) := by
  rw [pF_at (xu_0 D) (by show 7 < 9; decide)]
  refine congrArg some ((yS_su (i := 0) D (by decide) _).trans ?_)
  have e : upo (suC (aU L) s) 0 (cO 7 ([.ref (aU L + 1), .ref (aU L + 2), .ref (aU L + 3), .ref (aU L + 4), .int (s.1 44), .int (s.1 45), .int (s.1 46), .int (s.1 47), .int (s.1 48)].set 7 (.int x))) = suC (aU L) (wF s 47 x) := by
    funext i
    rcases i with _ | _ | _ | _ | _ | i
    all_goals rfl
  rw [e]
  rfl
theorem xu_f8 {b : pS} {L : xA} {s : rT} (D : Dj L) (x : Int32) : pF (xS b L s) (aU L) 7 8 (.int x) = some (xS b L (wF s 48 x)) := by
  rw [pF_at (xu_0 D) (by show 8 < 9; decide)]
  refine congrArg some ((yS_su (i := 0) D (by decide) _).trans ?_)
  have e : upo (suC (aU L) s) 0 (cO 7 ([.ref (aU L + 1), .ref (aU L + 2), .ref (aU L + 3), .ref (aU L + 4), .int (s.1 44), .int (s.1 45), .int (s.1 46), .int (s.1 47), .int (s.1 48)].set 8 (.int x))) = suC (aU L) (wF s 48 x) := by
    funext i
    rcases i with _ | _ | _ | _ | _ | i
    all_goals rfl
  rw [e]
  rfl
theorem xu_pF {b : pS} {L : xA} {s : rT} (D : Dj L) (x : Int32) : pF (xS b L s) (aU L) 7 4 (.int x) = some (xS b L (wF s 44 x)) ∧ pF (xS b L s) (aU L) 7 5 (.int x) = some (xS b L (wF s 45 x)) ∧ pF (xS b L s) (aU L) 7 6 (.int x) = some (xS b L (wF s 46 x)) ∧ pF (xS b L s) (aU L) 7 7 (.int x) = some (xS b L (wF s 47 x)) ∧ pF (xS b L s) (aU L) 7 8 (.int x) = some (xS b L (wF s 48 x)) := ⟨xu_f4 D x, xu_f5 D x, xu_f6 D x, xu_f7 D x, xu_f8 D x⟩
theorem vU {d M : Nat} {as : List Value} {b : pS} {L : xA} {s : rT} (D : Dj L) (h : mO M = 7) : vcall (d + 1) M (.ref (aU L) :: as) (xS b L s) = den d M 0 (ent M (.ref (aU L) :: as)) [] (xS b L s) := by
  have e : rcv M (.ref (aU L) :: as) (xS b L s) = true := by
    show isO (xS b L s) (aU L) (mO M) = true
    rw [h]; exact isO_at (xu_0 D)
  unfold vcall
  rw [e]
  rfl
theorem xk_0 {b : pS} {L : xA} {s : rT} (D : Dj L) : (xS b L s).2.2 (aK L) = some (cO 0 [.ref (aK L + 1), .int (s.1 61), .int (s.1 62)]) := yS_k (i := 0) D (by decide)
theorem xk_1 {b : pS} {L : xA} {s : rT} (D : Dj L) : (xS b L s).2.2 (aK L + 1) = some (cI 8 (cut 8 (s.2 31))) := yS_k (i := 1) D (by decide)
theorem xk_gF {b : pS} {L : xA} {s : rT} (D : Dj L) : gFr (xS b L s) (aK L) 0 0 = some (aK L + 1) ∧ gFi (xS b L s) (aK L) 0 1 = some (s.1 61) ∧ gFi (xS b L s) (aK L) 0 2 = some (s.1 62) := ⟨gFr_at (xk_0 D) rfl, gFi_at (xk_0 D) rfl, gFi_at (xk_0 D) rfl⟩
theorem xk_gN {b : pS} {L : xA} {s : rT} (D : Dj L) : gN (xS b L s) (aK L + 1) = some 8 ∧ True := ⟨gN_at (xk_1 D), trivial⟩
theorem xk_gI {b : pS} {L : xA} {s : rT} (D : Dj L) : (∀ k, k < 8 → gI (xS b L s) (aK L + 1) (Int32.ofNat k) = some (s.2 31 k)) ∧ True := ⟨fun _ hk => by rw [gI_at (xk_1 D) hk (by decide), cut_lt _ hk], trivial⟩
theorem xk_s1 {b : pS} {L : xA} {s : rT} (D : Dj L) {k : Nat} (hk : k < 8) (x : Int32) : pI (xS b L s) (aK L + 1) (Int32.ofNat k) x = some (xS b L (wA s 31 k x)) := by
  rw [pI_at (xk_1 D) hk (by decide), cut_upd _ _ hk]
  refine congrArg some ((yS_sk (i := 1) D (by decide) _).trans ?_)
  have e : upo (bkC (aK L) s) 1 (cI 8 (cut 8 (upd (s.2 31) k x))) = bkC (aK L) (wA s 31 k x) := by
    funext i
    rcases i with _ | _ | i
    all_goals rfl
  rw [e]
  rfl
theorem xk_pI {b : pS} {L : xA} {s : rT} (D : Dj L) : (∀ k x, k < 8 → pI (xS b L s) (aK L + 1) (Int32.ofNat k) x = some (xS b L (wA s 31 k x))) ∧ True := ⟨fun _ x hk => xk_s1 D hk x, trivial⟩
theorem xk_f1 {b : pS} {L : xA} {s : rT} (D : Dj L) (x : Int32) : pF (xS b L s) (aK L) 0 1 (.int x) = some (xS b L (wF s 61 x)) := by
  rw [pF_at (xk_0 D) (by show 1 < 3; decide)]
  refine congrArg some ((yS_sk (i := 0) D (by decide) _).trans ?_)
  have e : upo (bkC (aK L) s) 0 (cO 0 ([.ref (aK L + 1), .int (s.1 61), .int (s.1 62)].set 1 (.int x))) = bkC (aK L) (wF s 61 x) := by
    funext i
    rcases i with _ | _ | i
    all_goals rfl
  rw [e]
  rfl
theorem xk_f2 {b : pS} {L : xA} {s : rT} (D : Dj L) (x : Int32) : pF (xS b L s) (aK L) 0 2 (.int x) = some (xS b L (wF s 62 x)) := by
  rw [pF_at (xk_0 D) (by show 2 < 3; decide)]
  refine congrArg some ((yS_sk (i := 0) D (by decide) _).trans ?_)
  have e : upo (bkC (aK L) s) 0 (cO 0 ([.ref (aK L + 1), .int (s.1 61), .int (s.1 62)].set 2 (.int x))) = bkC (aK L) (wF s 62 x) := by
    funext i
    rcases i with _ | _ | i
    all_goals rfl
  rw [e]
  rfl
theorem xk_pF {b : pS} {L : xA} {s : rT} (D : Dj L) (x : Int32) : pF (xS b L s) (aK L) 0 1 (.int x) = some (xS b L (wF s 61 x)) ∧ pF (xS b L s) (aK L) 0 2 (.int x) = some (xS b L (wF s 62 x)) := ⟨xk_f1 D x, xk_f2 D x⟩
theorem vK {d M : Nat} {as : List Value} {b : pS} {L : xA} {s : rT} (D : Dj L) (h : mO M = 0) : vcall (d + 1) M (.ref (aK L) :: as) (xS b L s) = den d M 0 (ent M (.ref (aK L) :: as)) [] (xS b L s) := by
  have e : rcv M (.ref (aK L) :: as) (xS b L s) = true := by
    show isO (xS b L s) (aK L) (mO M) = true
    rw [h]; exact isO_at (xk_0 D)
  unfold vcall
  rw [e]
  rfl
theorem x0_0 {b : pS} {L : xA} {s : rT} (D : Dj L) : (xS b L s).2.2 0 = some (cO 10 [.ref 1, .ref 3, .ref 6, .ref (aU L), .ref (aW L), .ref (aK L), .ref (aP L), .ref (aQ L), va_rf (aZ L), .int (s.1 9), .int (s.1 10), .int (s.1 11), .int (s.1 12), .int (s.1 13)]) := yS_f (i := 0) D (by decide)
theorem x0_gF {b : pS} {L : xA} {s : rT} (D : Dj L) : gFr (xS b L s) 0 10 0 = some (1) ∧ gFr (xS b L s) 0 10 1 = some (3) ∧ gFr (xS b L s) 0 10 2 = some (6) ∧ gFr (xS b L s) 0 10 3 = some (aU L) ∧ gFr (xS b L s) 0 10 4 = some (aW L) ∧ gFr (xS b L s) 0 10 5 = some (aK L) ∧ gFr (xS b L s) 0 10 6 = some (aP L) ∧ gFr (xS b L s) 0 10 7 = some (aQ L) ∧ gFi (xS b L s) 0 10 9 = some (s.1 9) ∧ gFi (xS b L s) 0 10 10 = some (s.1 10) ∧ gFi (xS b L s) 0 10 11 = some (s.1 11) ∧ gFi (xS b L s) 0 10 12 = some (s.1 12) ∧ gFi (xS b L s) 0 10 13 = some (s.1 13) := ⟨gFr_at (x0_0 D) rfl, gFr_at (x0_0 D) rfl, gFr_at (x0_0 D) rfl, gFr_at (x0_0 D) rfl, gFr_at (x0_0 D) rfl, gFr_at (x0_0 D) rfl, gFr_at (x0_0 D) rfl, gFr_at (x0_0 D) rfl, gFi_at (x0_0 D) rfl, gFi_at (x0_0 D) rfl, gFi_at (x0_0 D) rfl, gFi_at (x0_0 D) rfl, gFi_at (x0_0 D) rfl⟩
theorem x0_f9 {b : pS} {L : xA} {s : rT} (D : Dj L) (x : Int32) : pF (xS b L s) 0 10 9 (.int x) = some (xS b L (wF s 9 x)) := by
  rw [pF_at (x0_0 D) (by show 9 < 14; decide)]
  refine congrArg some ((yS_sf (i := 0) D (by decide) _).trans ?_)
  have e : upo (fxC L s) 0 (cO 10 ([.ref 1, .ref 3, .ref 6, .ref (aU L), .ref (aW L), .ref (aK L), .ref (aP L), .ref (aQ L), va_rf (aZ L), .int (s.1 9), .int (s.1 10), .int (s.1 11), .int (s.1 12), .int (s.1 13)].set 9 (.int x))) = fxC L (wF s 9 x) := by
    funext i
    rcases i with _ | _ | _ | _ | _ | _ | _ | i
    all_goals rfl
  rw [e]
  rfl
theorem x0_f10 {b : pS} {L : xA} {s : rT} (D : Dj L) (x : Int32) : pF (xS b L s) 0 10 10 (.int x) = some (xS b L (wF s 10 x)) := by
  rw [pF_at (x0_0 D) (by show 10 < 14; decide)]
  refine congrArg some ((yS_sf (i := 0) D (by decide) _).trans ?_)
  have e : upo (fxC L s) 0 (cO 10 ([.ref 1, .ref 3, .ref 6, .ref (aU L), .ref (aW L), .ref (aK L), .ref (aP L), .ref (aQ L), va_rf (aZ L), .int (s.1 9), .int (s.1 10), .int (s.1 11), .int (s.1 12), .int (s.1 13)].set 10 (.int x))) = fxC L (wF s 10 x) := by
    funext i
    rcases i with _ | _ | _ | _ | _ | _ | _ | i
    all_goals rfl
  rw [e]
  rfl
theorem x0_f11 {b : pS} {L : xA} {s : rT} (D : Dj L) (x : Int32) : pF (xS b L s) 0 10 11 (.int x) = some (xS b L (wF s 11 x)) := by
  rw [pF_at (x0_0 D) (by show 11 < 14; decide)]
  refine congrArg some ((yS_sf (i := 0) D (by decide) _).trans ?_)
  have e : upo (fxC L s) 0 (cO 10 ([.ref 1, .ref 3, .ref 6, .ref (aU L), .ref (aW L), .ref (aK L), .ref (aP L), .ref (aQ L), va_rf (aZ L), .int (s.1 9), .int (s.1 10), .int (s.1 11), .int (s.1 12), .int (s.1 13)].set 11 (.int x))) = fxC L (wF s 11 x) := by
    funext i
    rcases i with _ | _ | _ | _ | _ | _ | _ | i
    all_goals rfl
  rw [e]
  rfl
theorem x0_f12 {b : pS} {L : xA} {s : rT} (D : Dj L) (x : Int32) : pF (xS b L s) 0 10 12 (.int x) = some (xS b L (wF s 12 x)) := by
  rw [pF_at (x0_0 D) (by show 12 < 14; decide)]
  refine congrArg some ((yS_sf (i := 0) D (by decide) _).trans ?_)
  have e : upo (fxC L s) 0 (cO 10 ([.ref 1, .ref 3, .ref 6, .ref (aU L), .ref (aW L), .ref (aK L), .ref (aP L), .ref (aQ L), va_rf (aZ L), .int (s.1 9), .int (s.1 10), .int (s.1 11), .int (s.1 12), .int (s.1 13)].set 12 (.int x))) = fxC L (wF s 12 x) := by
    funext i
    rcases i with _ | _ | _ | _ | _ | _ | _ | i
    all_goals rfl
  rw [e]
  rfl
theorem x0_f13 {b : pS} {L : xA} {s : rT} (D : Dj L) (x : Int32) : pF (xS b L s) 0 10 13 (.int x) = some (xS b L (wF s 13 x)) := by
  rw [pF_at (x0_0 D) (by show 13 < 14; decide)]
  refine congrArg some ((yS_sf (i := 0) D (by decide) _).trans ?_)
  have e : upo (fxC L s) 0 (cO 10 ([.ref 1, .ref 3, .ref 6, .ref (aU L), .ref (aW L), .ref (aK L), .ref (aP L), .ref (aQ L), va_rf (aZ L), .int (s.1 9), .int (s.1 10), .int (s.1 11), .int (s.1 12), .int (s.1 13)].set 13 (.int x))) = fxC L (wF s 13 x) := by
    funext i
    rcases i with _ | _ | _ | _ | _ | _ | _ | i
    all_goals rfl
  rw [e]
  rfl
theorem x0_pF {b : pS} {L : xA} {s : rT} (D : Dj L) (x : Int32) : pF (xS b L s) 0 10 9 (.int x) = some (xS b L (wF s 9 x)) ∧ pF (xS b L s) 0 10 10 (.int x) = some (xS b L (wF s 10 x)) ∧ pF (xS b L s) 0 10 11 (.int x) = some (xS b L (wF s 11 x)) ∧ pF (xS b L s) 0 10 12 (.int x) = some (xS b L (wF s 12 x)) ∧ pF (xS b L s) 0 10 13 (.int x) = some (xS b L (wF s 13 x)) := ⟨x0_f9 D x, x0_f10 D x, x0_f11 D x, x0_f12 D x, x0_f13 D x⟩
theorem vY {d M : Nat} {as : List Value} {b : pS} {L : xA} {s : rT} (D : Dj L) (h : mO M = 10) : vcall (d + 1) M (.ref 0 :: as) (xS b L s) = den d M 0 (ent M (.ref 0 :: as)) [] (xS b L s) := by
  have e : rcv M (.ref 0 :: as) (xS b L s) = true := by
    show isO (xS b L s) 0 (mO M) = true
    rw [h]; exact isO_at (x0_0 D)
  unfold vcall
  rw [e]
  rfl
theorem x1_0 {b : pS} {L : xA} {s : rT} (D : Dj L) : (xS b L s).2.2 1 = some (cO 8 [.ref 2, .int (s.1 21), .int (s.1 22), .int (s.1 23), .int (s.1 24), .int (s.1 25), .int (s.1 26)]) := yS_f (i := 1) D (by decide)
theorem x1_gF {b : pS} {L : xA} {s : rT} (D : Dj L) : gFr (xS b L s) 1 8 0 = some (2) ∧ gFi (xS b L s) 1 8 1 = some (s.1 21) ∧ gFi (xS b L s) 1 8 2 = some (s.1 22) ∧ gFi (xS b L s) 1 8 3 = some (s.1 23) ∧ gFi (xS b L s) 1 8 4 = some (s.1 24) ∧ gFi (xS b L s) 1 8 5 = some (s.1 25) ∧ gFi (xS b L s) 1 8 6 = some (s.1 26) := ⟨gFr_at (x1_0 D) rfl, gFi_at (x1_0 D) rfl, gFi_at (x1_0 D) rfl, gFi_at (x1_0 D) rfl, gFi_at (x1_0 D) rfl, gFi_at (x1_0 D) rfl, gFi_at (x1_0 D) rfl⟩
theorem x1_f1 {b : pS} {L : xA} {s : rT} (D : Dj L) (x : Int32) : pF (xS b L s) 1 8 1 (.int x) = some (xS b L (wF s 21 x)) := by
  rw [pF_at (x1_0 D) (by show 1 < 7; decide)]
  refine congrArg some ((yS_sf (i := 1) D (by decide) _).trans ?_)
  have e : upo (fxC L s) 1 (cO 8 ([.ref 2, .int (s.1 21), .int (s.1 22), .int (s.1 23), .int (s.1 24), .int (s.1 25), .int (s.1 26)].set 1 (.int x))) = fxC L (wF s 21 x) := by
    funext i
    rcases i with _ | _ | _ | _ | _ | _ | _ | i
    all_goals rfl
  rw [e]
  rfl
theorem x1_f2 {b : pS} {L : xA} {s : rT} (D : Dj L) (x : Int32) : pF (xS b L s) 1 8 2 (.int x) = some (xS b L (wF s 22 x)) := by
  rw [pF_at (x1_0 D) (by show 2 < 7; decide)]
  refine congrArg some ((yS_sf (i := 1) D (by decide) _).trans ?_)
  have e : upo (fxC L s) 1 (cO 8 ([.ref 2, .int (s.1 21), .int (s.1 22), .int (s.1 23), .int (s.1 24), .int (s.1 25), .int (s.1 26)].set 2 (.int x))) = fxC L (wF s 22 x) := by
    funext i
    rcases i with _ | _ | _ | _ | _ | _ | _ | i
    all_goals rfl
  rw [e]
  rfl
theorem x1_f3 {b : pS} {L : xA} {s : rT} (D : Dj L) (x : Int32) : pF (xS b L s) 1 8 3 (.int x) = some (xS b L (wF s 23 x)) := by
  rw [pF_at (x1_0 D) (by show 3 < 7; decide)]
  refine congrArg some ((yS_sf (i := 1) D (by decide) _).trans ?_)
  have e : upo (fxC L s) 1 (cO 8 ([.ref 2, .int (s.1 21), .int (s.1 22), .int (s.1 23), .int (s.1 24), .int (s.1 25), .int (s.1 26)].set 3 (.int x))) = fxC L (wF s 23 x) := by
    funext i
    rcases i with _ | _ | _ | _ | _ | _ | _ | i
    all_goals rfl
  rw [e]
  rfl
theorem x1_f4 {b : pS} {L : xA} {s : rT} (D : Dj L) (x : Int32) : pF (xS b L s) 1 8 4 (.int x) = some (xS b L (wF s 24 x)) := by
  rw [pF_at (x1_0 D) (by show 4 < 7; decide)]
  refine congrArg some ((yS_sf (i := 1) D (by decide) _).trans ?_)
  have e : upo (fxC L s) 1 (cO 8 ([.ref 2, .int (s.1 21), .int (s.1 22), .int (s.1 23), .int (s.1 24), .int (s.1 25), .int (s.1 26)].set 4 (.int x))) = fxC L (wF s 24 x) := by
    funext i
    rcases i with _ | _ | _ | _ | _ | _ | _ | i
    all_goals rfl
  rw [e]
  rfl
theorem x1_f5 {b : pS} {L : xA} {s : rT} (D : Dj L) (x : Int32) : pF (xS b L s) 1 8 5 (.int x) = some (xS b L (wF s 25 x)) := by
  rw [pF_at (x1_0 D) (by show 5 < 7; decide)]
  refine congrArg some ((yS_sf (i := 1) D (by decide) _).trans ?_)
  have e : upo (fxC L s) 1 (cO 8 ([.ref 2, .int (s.1 21), .int (s.1 22), .int (s.1 23), .int (s.1 24), .int (s.1 25), .int (s.1 26)].set 5 (.int x))) = fxC L (wF s 25 x) := by
    funext i
    rcases i with _ | _ | _ | _ | _ | _ | _ | i
    all_goals rfl
  rw [e]
  rfl
theorem x1_f6 {b : pS} {L : xA} {s : rT} (D : Dj L) (x : Int32) : pF (xS b L s) 1 8 6 (.int x) = some (xS b L (wF s 26 x)) := by
  rw [pF_at (x1_0 D) (by show 6 < 7; decide)]
  refine congrArg some ((yS_sf (i := 1) D (by decide) _).trans ?_)
  have e : upo (fxC L s) 1 (cO 8 ([.ref 2, .int (s.1 21), .int (s.1 22), .int (s.1 23), .int (s.1 24), .int (s.1 25), .int (s.1 26)].set 6 (.int x))) = fxC L (wF s 26 x) := by
    funext i
    rcases i with _ | _ | _ | _ | _ | _ | _ | i
    all_goals rfl
  rw [e]
  rfl
theorem x1_pF {b : pS} {L : xA} {s : rT} (D : Dj L) (x : Int32) : pF (xS b L s) 1 8 1 (.int x) = some (xS b L (wF s 21 x)) ∧ pF (xS b L s) 1 8 2 (.int x) = some (xS b L (wF s 22 x)) ∧ pF (xS b L s) 1 8 3 (.int x) = some (xS b L (wF s 23 x)) ∧ pF (xS b L s) 1 8 4 (.int x) = some (xS b L (wF s 24 x)) ∧ pF (xS b L s) 1 8 5 (.int x) = some (xS b L (wF s 25 x)) ∧ pF (xS b L s) 1 8 6 (.int x) = some (xS b L (wF s 26 x)) := ⟨x1_f1 D x, x1_f2 D x, x1_f3 D x, x1_f4 D x, x1_f5 D x, x1_f6 D x⟩
theorem vT {d M : Nat} {as : List Value} {b : pS} {L : xA} {s : rT} (D : Dj L) (h : mO M = 8) : vcall (d + 1) M (.ref 1 :: as) (xS b L s) = den d M 0 (ent M (.ref 1 :: as)) [] (xS b L s) := by
  have e : rcv M (.ref 1 :: as) (xS b L s) = true := by
    show isO (xS b L s) 1 (mO M) = true
    rw [h]; exact isO_at (x1_0 D)
  unfold vcall
  rw [e]
  rfl
theorem x3_0 {b : pS} {L : xA} {s : rT} (D : Dj L) : (xS b L s).2.2 3 = some (cO 4 [.ref 4, .ref 5, .int (s.1 32), .int (s.1 33)]) := yS_f (i := 3) D (by decide)
theorem x3_gF {b : pS} {L : xA} {s : rT} (D : Dj L) : gFr (xS b L s) 3 4 0 = some (4) ∧ gFr (xS b L s) 3 4 1 = some (5) ∧ gFi (xS b L s) 3 4 2 = some (s.1 32) ∧ gFi (xS b L s) 3 4 3 = some (s.1 33) := ⟨gFr_at (x3_0 D) rfl, gFr_at (x3_0 D) rfl, gFi_at (x3_0 D) rfl, gFi_at (x3_0 D) rfl⟩
theorem x3_f2 {b : pS} {L : xA} {s : rT} (D : Dj L) (x : Int32) : pF (xS b L s) 3 4 2 (.int x) = some (xS b L (wF s 32 x)) := by
  rw [pF_at (x3_0 D) (by show 2 < 4; decide)]
  refine congrArg some ((yS_sf (i := 3) D (by decide) _).trans ?_)
  have e : upo (fxC L s) 3 (cO 4 ([.ref 4, .ref 5, .int (s.1 32), .int (s.1 33)].set 2 (.int x))) = fxC L (wF s 32 x) := by
    funext i
    rcases i with _ | _ | _ | _ | _ | _ | _ | i
    all_goals rfl
  rw [e]
  rfl
theorem x3_f3 {b : pS} {L : xA} {s : rT} (D : Dj L) (x : Int32) : pF (xS b L s) 3 4 3 (.int x) = some (xS b L (wF s 33 x)) := by
  rw [pF_at (x3_0 D) (by show 3 < 4; decide)]
  refine congrArg some ((yS_sf (i := 3) D (by decide) _).trans ?_)
  have e : upo (fxC L s) 3 (cO 4 ([.ref 4, .ref 5, .int (s.1 32), .int (s.1 33)].set 3 (.int x))) = fxC L (wF s 33 x) := by
    funext i
    rcases i with _ | _ | _ | _ | _ | _ | _ | i
    all_goals rfl
  rw [e]
  rfl
theorem x3_pF {b : pS} {L : xA} {s : rT} (D : Dj L) (x : Int32) : pF (xS b L s) 3 4 2 (.int x) = some (xS b L (wF s 32 x)) ∧ pF (xS b L s) 3 4 3 (.int x) = some (xS b L (wF s 33 x)) := ⟨x3_f2 D x, x3_f3 D x⟩
theorem vL {d M : Nat} {as : List Value} {b : pS} {L : xA} {s : rT} (D : Dj L) (h : mO M = 4) : vcall (d + 1) M (.ref 3 :: as) (xS b L s) = den d M 0 (ent M (.ref 3 :: as)) [] (xS b L s) := by
  have e : rcv M (.ref 3 :: as) (xS b L s) = true := by
    show isO (xS b L s) 3 (mO M) = true
    rw [h]; exact isO_at (x3_0 D)
  unfold vcall
  rw [e]
  rfl
theorem x2_0 {b : pS} {L : xA} {s : rT} (D : Dj L) : (xS b L s).2.2 2 = some (cI 600 (cut 600 (s.2 2))) := yS_f (i := 2) D (by decide)
theorem x2_s {b : pS} {L : xA} {s : rT} (D : Dj L) {k : Nat} (hk : k < 600) (x : Int32) : pI (xS b L s) 2 (Int32.ofNat k) x = some (xS b L (wA s 2 k x)) := by
  rw [pI_at (x2_0 D) hk (by decide), cut_upd _ _ hk]
  refine congrArg some ((yS_sf (i := 2) D (by decide) _).trans ?_)
  have e : upo (fxC L s) 2 (cI 600 (cut 600 (upd (s.2 2) k x))) = fxC L (wA s 2 k x) := by
    funext i
    rcases i with _ | _ | _ | _ | _ | _ | _ | i
    all_goals rfl
  rw [e]
  rfl
theorem x4_0 {b : pS} {L : xA} {s : rT} (D : Dj L) : (xS b L s).2.2 4 = some (cI 48 (cut 48 (s.2 4))) := yS_f (i := 4) D (by decide)
theorem x4_s {b : pS} {L : xA} {s : rT} (D : Dj L) {k : Nat} (hk : k < 48) (x : Int32) : pI (xS b L s) 4 (Int32.ofNat k) x = some (xS b L (wA s 4 k x)) := by
  rw [pI_at (x4_0 D) hk (by decide), cut_upd _ _ hk]
  refine congrArg some ((yS_sf (i := 4) D (by decide) _).trans ?_)
  have e : upo (fxC L s) 4 (cI 48 (cut 48 (upd (s.2 4) k x))) = fxC L (wA s 4 k x) := by
    funext i
    rcases i with _ | _ | _ | _ | _ | _ | _ | i
    all_goals rfl
  rw [e]
  rfl
theorem x5_0 {b : pS} {L : xA} {s : rT} (D : Dj L) : (xS b L s).2.2 5 = some (cI 256 (cut 256 (s.2 5))) := yS_f (i := 5) D (by decide)
theorem x5_s {b : pS} {L : xA} {s : rT} (D : Dj L) {k : Nat} (hk : k < 256) (x : Int32) : pI (xS b L s) 5 (Int32.ofNat k) x = some (xS b L (wA s 5 k x)) := by
  rw [pI_at (x5_0 D) hk (by decide), cut_upd _ _ hk]
  refine congrArg some ((yS_sf (i := 5) D (by decide) _).trans ?_)
  have e : upo (fxC L s) 5 (cI 256 (cut 256 (upd (s.2 5) k x))) = fxC L (wA s 5 k x) := by
    funext i
    rcases i with _ | _ | _ | _ | _ | _ | _ | i
    all_goals rfl
  rw [e]
  rfl
theorem xf_gI {b : pS} {L : xA} {s : rT} (D : Dj L) : (∀ k, k < 600 → gI (xS b L s) 2 (Int32.ofNat k) = some (s.2 2 k)) ∧ (∀ k, k < 48 → gI (xS b L s) 4 (Int32.ofNat k) = some (s.2 4 k)) ∧ (∀ k, k < 256 → gI (xS b L s) 5 (Int32.ofNat k) = some (s.2 5 k)) := ⟨fun _ hk => by rw [gI_at (x2_0 D) hk (by decide), cut_lt _ hk], fun _ hk => by rw [gI_at (x4_0 D) hk (by decide), cut_lt _ hk], fun _ hk => by rw [gI_at (x5_0 D) hk (by decide), cut_lt _ hk]⟩
theorem xf_pI {b : pS} {L : xA} {s : rT} (D : Dj L) : (∀ k x, k < 600 → pI (xS b L s) 2 (Int32.ofNat k) x = some (xS b L (wA s 2 k x))) ∧ (∀ k x, k < 48 → pI (xS b L s) 4 (Int32.ofNat k) x = some (xS b L (wA s 4 k x))) ∧ (∀ k x, k < 256 → pI (xS b L s) 5 (Int32.ofNat k) x = some (xS b L (wA s 5 k x))) := ⟨fun _ x hk => x2_s D hk x, fun _ x hk => x4_s D hk x, fun _ x hk => x5_s D hk x⟩
theorem xf_gN {b : pS} {L : xA} {s : rT} (D : Dj L) : gN (xS b L s) 2 = some 600 ∧ gN (xS b L s) 4 = some 48 ∧ gN (xS b L s) 5 = some 256 := ⟨gN_at (x2_0 D), gN_at (x4_0 D), gN_at (x5_0 D)⟩
theorem xw_pIl {b : pS} {L : xA} {s : rT} (D : Dj L) (x : Int32) : pI (xS b L s) (aW L + 3) 0 x = some (xS b L (wA s 23 0 x)) ∧ pI (xS b L s) (aW L + 3) 1 x = some (xS b L (wA s 23 1 x)) ∧ pI (xS b L s) (aW L + 3) 2 x = some (xS b L (wA s 23 2 x)) ∧ pI (xS b L s) (aW L + 3) 3 x = some (xS b L (wA s 23 3 x)) ∧ pI (xS b L s) (aW L + 3) 4 x = some (xS b L (wA s 23 4 x)) ∧ pI (xS b L s) (aW L + 3) 5 x = some (xS b L (wA s 23 5 x)) ∧ pI (xS b L s) (aW L + 3) 6 x = some (xS b L (wA s 23 6 x)) ∧ pI (xS b L s) (aW L + 3) 7 x = some (xS b L (wA s 23 7 x)) := ⟨xw_s3 (k := 0) D (by decide) x, xw_s3 (k := 1) D (by decide) x, xw_s3 (k := 2) D (by decide) x, xw_s3 (k := 3) D (by decide) x, xw_s3 (k := 4) D (by decide) x, xw_s3 (k := 5) D (by decide) x, xw_s3 (k := 6) D (by decide) x, xw_s3 (k := 7) D (by decide) x⟩
theorem x5_g0 {b : pS} {L : xA} {s : rT} (D : Dj L) : gI (xS b L s) 5 0 = some (s.2 5 0) := (xf_gI D).2.2 0 (by decide)
theorem xS_eq {b : pS} {L : xA} {s s' : rT} (h1 : ∀ k, k < 63 → s.1 k = s'.1 k) (h2 : ∀ a, s.2 a = s'.2 a) : xS b L s = xS b L s' := by
  unfold xS
  have e0 : lwC (aW L) s = lwC (aW L) s' := by
    funext i; rcases i with _ | _ | _ | _ | i
    · show some (cO 1 [_, _, _, .int (s.1 53)]) = some (cO 1 [_, _, _, .int (s'.1 53)]); rw [h1 53 (by decide)]
    all_goals (unfold lwC; simp only [h2])
  have e1 : suC (aU L) s = suC (aU L) s' := by
    funext i; rcases i with _ | _ | _ | _ | _ | i
    · unfold suC; simp only [h1 44 (by decide), h1 45 (by decide), h1 46 (by decide), h1 47 (by decide), h1 48 (by decide)]
    all_goals (unfold suC; simp only [h2])
  have e2 : bkC (aK L) s = bkC (aK L) s' := by
    funext i; rcases i with _ | _ | i
    · unfold bkC; simp only [h1 61 (by decide), h1 62 (by decide)]
    all_goals (unfold bkC; simp only [h2])
  have e3 : fxC L s = fxC L s' := by
    funext i; rcases i with _ | _ | _ | _ | _ | _ | _ | i
    · unfold fxC; simp only [h1 9 (by decide), h1 10 (by decide), h1 11 (by decide), h1 12 (by decide), h1 13 (by decide)]
    · unfold fxC; simp only [h1 21 (by decide), h1 22 (by decide), h1 23 (by decide), h1 24 (by decide), h1 25 (by decide), h1 26 (by decide)]
    · unfold fxC; simp only [h2]
    · unfold fxC; simp only [h1 32 (by decide), h1 33 (by decide)]
    all_goals (unfold fxC; simp only [h2])
  rw [e0, e1, e2, e3, h2 0, h2 1]
