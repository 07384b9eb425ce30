/-! A PURE MACHINE: the methods' bytecode, links resolved, over a heap of cells that are counted from 0. 'run' goes by fuel, 'den' is what it comes to. -/
abbrev pC : Type := (Nat × (Nat → Int32)) ⊕ (Nat × (Nat → Int64)) ⊕ (Nat × (Nat → Option Nat)) ⊕ (Nat × List Value) ⊕ (Nat × (Nat → Int32))
abbrev pH : Type := Nat → Option pC
abbrev pS : Type := Nat × Nat × pH
abbrev pO : Type := Option Value ⊕ (Nat × Nat)
abbrev pR : Type := Option (pO × pS)
/-- length, operation, a number, two places -/
abbrev pE : Type := Nat × Nat × Int × Nat × Nat
abbrev cI (n : Nat) (f : Nat → Int32) : pC := .inl (n, f)
abbrev cL (n : Nat) (f : Nat → Int64) : pC := .inr (.inl (n, f))
abbrev cQ (n : Nat) (f : Nat → Option Nat) : pC := .inr (.inr (.inl (n, f)))
abbrev cO (c : Nat) (fs : List Value) : pC := .inr (.inr (.inr (.inl (c, fs))))
abbrev cT (n : Nat) (f : Nat → Int32) : pC := .inr (.inr (.inr (.inr (n, f))))
abbrev mk0 : Value := .retAddr 0
def pSet (s : pS) (r : Nat) (c : pC) : pS := (s.1, s.2.1, fun j => if j = r then some c else s.2.2 j)
def pNew (s : pS) (c : pC) (k : Nat) : pS := (s.1 + 1, s.2.1 + k, fun j => if j = s.1 then some c else s.2.2 j)
def pEx (s : pS) : pS := (s.1 + 1, s.2.1 + 6, s.2.2)
def gO (s : pS) (q ci : Nat) : Option (List Value) := match s.2.2 q with
  | some (.inr (.inr (.inr (.inl (c, fs))))) => if c = ci then some fs else none
  | _ => none
def gFi (s : pS) (q ci k : Nat) : Option Int32 := match gO s q ci with
  | some fs => (match fs[k]? with | some (.int v) => some v | _ => none)
  | none => none
def gFr (s : pS) (q ci k : Nat) : Option Nat := match gO s q ci with
  | some fs => (match fs[k]? with | some (.ref v) => some v | _ => none)
  | none => none
def gFv (s : pS) (q ci k : Nat) : Option (Option Nat) := match gO s q ci with
  | some fs => (match fs[k]? with | some (.ref v) => some (some v) | some .null => some none | _ => none)
  | none => none
def pF (s : pS) (q ci k : Nat) (v : Value) : Option pS := match gO s q ci with
  | some fs => if k < fs.length then some (pSet s q (cO ci (fs.set k v))) else none
  | none => none
def gI (s : pS) (q : Nat) (i : Int32) : Option Int32 := match s.2.2 q with
  | some (.inl (n, f)) => if i < 0 ∨ n ≤ i.toNatClampNeg then none else some (f i.toNatClampNeg)
  | some (.inr (.inr (.inr (.inr (n, f))))) => if i < 0 ∨ n ≤ i.toNatClampNeg then none else some (f i.toNatClampNeg)
  | _ => none
def pI (s : pS) (q : Nat) (i x : Int32) : Option pS := match s.2.2 q with
  | some (.inl (n, f)) => if i < 0 ∨ n ≤ i.toNatClampNeg then none else some (pSet s q (cI n (upd f i.toNatClampNeg x)))
  | _ => none
def gL (s : pS) (q : Nat) (i : Int32) : Option Int64 := match s.2.2 q with
  | some (.inr (.inl (n, f))) => if i < 0 ∨ n ≤ i.toNatClampNeg then none else some (f i.toNatClampNeg)
  | _ => none
def pL (s : pS) (q : Nat) (i : Int32) (x : Int64) : Option pS := match s.2.2 q with
  | some (.inr (.inl (n, f))) => if i < 0 ∨ n ≤ i.toNatClampNeg then none else some (pSet s q (cL n (vp_updL f i.toNatClampNeg x)))
  | _ => none
def gQ (s : pS) (q : Nat) (i : Int32) : Option (Option Nat) := match s.2.2 q with
  | some (.inr (.inr (.inl (n, f)))) => if i < 0 ∨ n ≤ i.toNatClampNeg then none else some (f i.toNatClampNeg)
  | _ => none
/-- into an array of Moments (class 2) -/
def pQ (s : pS) (q : Nat) (i : Int32) (x : Option Nat) : Option pS := match s.2.2 q with
  | some (.inr (.inr (.inl (n, f)))) => if i < 0 ∨ n ≤ i.toNatClampNeg then none else
      (match x with
       | none => some (pSet s q (cQ n (va_up f i.toNatClampNeg none)))
       | some v => (match gO s v 2 with | some _ => some (pSet s q (cQ n (va_up f i.toNatClampNeg (some v)))) | none => none))
  | _ => none
def gN (s : pS) (q : Nat) : Option Int32 := match s.2.2 q with
  | some (.inl (n, _)) => some (Int32.ofNat n)
  | some (.inr (.inl (n, _))) => some (Int32.ofNat n)
  | some (.inr (.inr (.inl (n, _)))) => some (Int32.ofNat n)
  | some (.inr (.inr (.inr (.inr (n, _))))) => some (Int32.ofNat n)
  | _ => none
def pCp (s : pS) (q : Nat) (sp : Int32) (r : Nat) (dp n : Int32) : Option pS := match s.2.2 q, s.2.2 r with
  | some (.inl (n0, f)), some (.inl (n1, g)) => if sp < 0 ∨ dp < 0 ∨ n < 0 ∨ n0 < sp.toNatClampNeg + n.toNatClampNeg ∨ n1 < dp.toNatClampNeg + n.toNatClampNeg then none else some (pSet s r (cI n1 (va_cpy f g sp.toNatClampNeg dp.toNatClampNeg n.toNatClampNeg)))
  | _, _ => none
def pSB : Nat := 10000000
def sLen (T : List (List Int32)) (q : Nat) : Option Int32 := if q < pSB then none else match T[q - pSB]? with
  | some b => some (Int32.ofNat b.length)
  | none => none
def sAt (T : List (List Int32)) (q : Nat) (i : Int32) : Option Int32 := if q < pSB then none else match T[q - pSB]? with
  | some b => if i < 0 ∨ b.length ≤ i.toNatClampNeg then none else some (b.getD i.toNatClampNeg 0)
  | none => none
-- locals
def pClr (ls : List Value) (i : Nat) : List Value := match i with
  | 0 => ls
  | j + 1 => (match ls[j]? with | some (.long _) => ls.set j mk0 | _ => ls)
def pSt1 (ls : List Value) (i : Nat) (v : Value) : List Value := (pClr ls i).set i v
/-- b = 0: no long lies among the method's locals -/
def pSt (b : Nat) (ls : List Value) (i : Nat) (v : Value) : List Value := match b with
  | 0 => ls.set i v
  | _ => pSt1 ls i v
def pSt2 (ls : List Value) (i : Nat) (v : Value) : List Value := ((pClr ls i).set i v).set (i + 1) mk0
def entL : List Value → List Value
  | [] => []
  | .long v :: r => .long v :: mk0 :: entL r
  | v :: r => v :: entL r
def entN (n : Nat) (as : List Value) : List Value := entL as ++ List.replicate (n - (entL as).length) mk0
-- what an instruction takes
def tI (o : Option Value) (K : Int32 → pR) : pR := match o with
  | some (.int v) => K v
  | _ => none
def tJ (o : Option Value) (K : Int64 → pR) : pR := match o with
  | some (.long v) => K v
  | _ => none
def tA (o : Option Value) (K : Option Nat → pR) : pR := match o with
  | some (.ref v) => K (some v)
  | some .null => K none
  | _ => none
def kI (st : List Value) (K : Int32 → List Value → pR) : pR := match st with
  | .int x :: r => K x r
  | _ => none
def kII (st : List Value) (K : Int32 → Int32 → List Value → pR) : pR := match st with
  | .int y :: .int x :: r => K x y r
  | _ => none
def kJ (st : List Value) (K : Int64 → List Value → pR) : pR := match st with
  | .long x :: r => K x r
  | _ => none
def kJJ (st : List Value) (K : Int64 → Int64 → List Value → pR) : pR := match st with
  | .long y :: .long x :: r => K x y r
  | _ => none
def kA (st : List Value) (K : Nat → List Value → pR) : pR := match st with
  | .ref q :: r => K q r
  | _ => none
def kAn (st : List Value) (K : Option Nat → List Value → pR) : pR := match st with
  | .ref q :: r => K (some q) r
  | .null :: r => K none r
  | _ => none
def kIA (st : List Value) (K : Nat → Int32 → List Value → pR) : pR := match st with
  | .int i :: .ref q :: r => K q i r
  | _ => none
def kIIA (st : List Value) (K : Nat → Int32 → Int32 → List Value → pR) : pR := match st with
  | .int x :: .int i :: .ref q :: r => K q i x r
  | _ => none
def kJIA (st : List Value) (K : Nat → Int32 → Int64 → List Value → pR) : pR := match st with
  | .long x :: .int i :: .ref q :: r => K q i x r
  | _ => none
def kAIA (st : List Value) (K : Nat → Int32 → Option Nat → List Value → pR) : pR := match st with
  | .ref x :: .int i :: .ref q :: r => K q i (some x) r
  | .null :: .int i :: .ref q :: r => K q i none r
  | _ => none
def kV1 (st : List Value) (K : Value → List Value → pR) : pR := match st with
  | .int x :: r => K (.int x) r
  | .ref x :: r => K (.ref x) r
  | _ => none
def kSw (l : List (Int32 × Nat)) (d : Nat) (x : Int32) (K : Nat → pR) : pR := match l with
  | [] => K d
  | (c, t) :: r => if x = c then K t else kSw r d x K
/-- a call's end: nothing, an int, a long, a reference comes back; thrown: X -/
def kC0 (r : pR) (K : pS → pR) (X : Nat → Nat → pS → pR) : pR := match r with
  | some (.inl none, s) => K s
  | some (.inr (c, i), s) => X c i s
  | _ => none
def kC1 (r : pR) (K : Int32 → pS → pR) (X : Nat → Nat → pS → pR) : pR := match r with
  | some (.inl (some (.int x)), s) => K x s
  | some (.inr (c, i), s) => X c i s
  | _ => none
def kC2 (r : pR) (K : Int64 → pS → pR) (X : Nat → Nat → pS → pR) : pR := match r with
  | some (.inl (some (.long x)), s) => K x s
  | some (.inr (c, i), s) => X c i s
  | _ => none
def kC3 (r : pR) (K : Nat → pS → pR) (X : Nat → Nat → pS → pR) : pR := match r with
  | some (.inl (some (.ref x)), s) => K x s
  | some (.inr (c, i), s) => X c i s
  | _ => none
/-- a handler's row: from, up to, where it goes on, which exception -/
def hX (l : List (Nat × Nat × Nat × Nat)) (pc c : Nat) (K : Nat → pR) (D : pR) : pR := match l with
  | [] => D
  | (a, b, h, k) :: r => bif Nat.ble a pc && Nat.blt pc b then (if c = k then K h else hX r pc c K D) else hX r pc c K D
def oN (v : Option Nat) (a : pR) (F : Nat → pR) : pR := match v with
  | none => a
  | some w => F w
def xp (c i : Nat) (s : pS) : pR := some (.inr (c, i), s)
def ibin (b : Nat) (x y : Int32) : Int32 := match b with
  | 0 => x + y
  | 1 => x - y
  | 2 => x * y
  | 3 => x <<< (y &&& 31)
  | 4 => x >>> (y &&& 31)
  | 5 => (x.toUInt32 >>> (y.toUInt32 &&& Int32.toUInt32 31)).toInt32
  | 6 => x &&& y
  | 7 => x ||| y
  | _ => x ^^^ y
/-- room on the stack below a call's arguments -/
def stW (r : List Value) : Bool := Nat.ble ((r.map fun v => v.category).sum) 8
/-- an object of this kind -/
def isO (s : pS) (q c : Nat) : Bool := match s.2.2 q with
  | some (.inr (.inr (.inr (.inl (k, _))))) => Nat.beq k c
  | _ => false
def isJ (v : Value) : Bool := match v with
  | .long _ => true
  | .double _ => true
  | _ => false
