/-! WHAT a scene tells, as functions of its 76 ints: light 0.., seat 8.., still 14.., hunger 20.., plate 26.., meals 74, day 75 -/
def sSits (n : Nat) (s : Nat → Int32) : Int32 := fo (fun p a => if s (8 + p) = -1 then a else a ||| (1 <<< (Int32.ofNat p &&& 31))) n 0
def sOn (n : Nat) (s : Nat → Int32) (t : Int32) : Int32 := fsA (fun p => decide (s (8 + p) = t)) n 0
def sAll (n : Nat) (s : Nat → Int32) (t : Nat) : Int32 := fo (fun p a => a + s (26 + 6 * t + p)) n 0
def sPlate (m n : Nat) (s : Nat → Int32) : Int32 := fo (fun t a => a + sAll n s t) m 0
def sSeen (n : Nat) (s : Nat → Int32) (t : Nat) : Int32 := fsA (fun p => decide (sAll n s t < 2 * s (26 + 6 * t + p))) n 0
def sUnseen (m n : Nat) (s : Nat → Int32) : Int32 := fo (fun t a => if sSeen n s t = -1 then a else a &&& ((1 <<< (sSeen n s t &&& 31)) ^^^ (-1))) m ((1 <<< (Int32.ofNat n &&& 31)) - 1)
def sSelves (m : Nat) (s : Nat → Int32) (p : Nat) : Int32 := fo (fun t a => if 0 < s (26 + 6 * t + p) then a ||| (1 <<< (Int32.ofNat t &&& 31)) else a) m 0
def sAllOf (m : Nat) (s : Nat → Int32) (p : Nat) : Int32 := fo (fun t a => a + s (26 + 6 * t + p)) m 0
def sWhere (m n : Nat) (s : Nat → Int32) (p : Nat) : Int32 := fo (fun t a => if sSeen n s t = Int32.ofNat p then a ||| (1 <<< (Int32.ofNat t &&& 31)) else a) m 0
def onesI (x : Int32) : Int32 := fo (fun k a => a + ((x >>> (Int32.ofNat k &&& 31)) &&& 1)) 8 0
theorem nle_iff {a b : Int32} : (¬ a ≤ b) = (b < a) := propext Int32.not_le
