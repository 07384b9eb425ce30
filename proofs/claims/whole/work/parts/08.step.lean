/-! ONE STEP of the pure machine, with what goes on behind it (K) and what a call comes to (C). -/
def pX (K : Nat → List Value → List Value → pS → pR) (M pc : Nat) (ls : List Value) (c i : Nat) (s : pS) : pR := hX (hnd M) pc c (fun h => K h ls [.ref i] s) (match hnd M with | [] => some (.inr (c, i), s) | _ => none)
/-- the arguments fit the callee's locals -/
def argOk (M : Nat) (as : List Value) : Bool := Nat.ble (entL as).length (mxL M) && (mJ M || as.all fun v => !isJ v)
/-- the receiver is of the callee's kind -/
def rcv (M : Nat) (as : List Value) (s : pS) : Bool := match as with
  | .ref q :: _ => isO s q (mO M)
  | _ => false
/-- where nothing is thrown -/
def nX (_ _ : Nat) (_ : pS) : pR := none
def pCall (C : Nat → List Value → pS → pR) (K : Nat → List Value → List Value → pS → pR) (X : Nat → Nat → pS → pR) (M pc len : Nat) (t : Int) (a b : Nat) (ls st : List Value) (s : pS) : pR :=
  bif Nat.ble b st.length && (stW (st.drop b) && argOk a (st.take b).reverse) then (match t.toNat with
    | 0 => kC0 (C a (st.take b).reverse s) (fun s' => K (pc + len) ls (st.drop b) s') X
    | 1 => kC1 (C a (st.take b).reverse s) (fun x s' => K (pc + len) ls (.int x :: st.drop b) s') X
    | 2 => kC2 (C a (st.take b).reverse s) (fun x s' => K (pc + len) ls (.long x :: st.drop b) s') X
    | _ => kC3 (C a (st.take b).reverse s) (fun x s' => K (pc + len) ls (.ref x :: st.drop b) s') X) else none
def pStep (C : Nat → List Value → pS → pR) (K : Nat → List Value → List Value → pS → pR) (M pc : Nat) (e : pE) (ls st : List Value) (s : pS) : pR := match e with
  | (len, op, x, a, b) => match op with
    | 0 => K (pc + len) ls (.int (Int32.ofInt x) :: st) s
    | 1 => K (pc + len) ls (.long (Int64.ofInt x) :: st) s
    | 2 => tI ls[a]? fun v => K (pc + len) ls (.int v :: st) s
    | 3 => tA ls[a]? fun v => K (pc + len) ls (va_rf v :: st) s
    | 4 => tJ ls[a]? fun v => K (pc + len) ls (.long v :: st) s
    | 5 => kI st fun v r => K (pc + len) (pSt b ls a (.int v)) r s
    | 6 => kAn st fun v r => K (pc + len) (pSt b ls a (va_rf v)) r s
    | 7 => kJ st fun v r => K (pc + len) (pSt2 ls a (.long v)) r s
    | 8 => tI ls[a]? fun v => K (pc + len) (pSt b ls a (.int (v + Int32.ofInt x))) st s
    | 9 => kII st fun v w r => K (pc + len) ls (.int (ibin b v w) :: r) s
    | 10 => kII st fun v w r => if w = 0 then none else K (pc + len) ls (.int (v / w) :: r) s
    | 11 => kII st fun v w r => if w = 0 then none else K (pc + len) ls (.int (v - v / w * w) :: r) s
    | 12 => kJJ st fun v w r => K (pc + len) ls (.long (v * w) :: r) s
    | 13 => kJJ st fun v w r => if w = 0 then none else K (pc + len) ls (.long (v / w) :: r) s
    | 14 => kJJ st fun v w r => if w = 0 then none else K (pc + len) ls (.long (v - v / w * w) :: r) s
    | 15 => kI st fun v r => K (pc + len) ls (.long v.toInt64 :: r) s
    | 16 => kJ st fun v r => K (pc + len) ls (.int v.toInt32 :: r) s
    | 17 => kJJ st fun v w r => K (pc + len) ls (.int (lg_cmp v w) :: r) s
    | 18 => kV1 st fun v r => K (pc + len) ls (v :: v :: r) s
    | 19 => kIA st fun q i r => K (pc + len) ls (.int i :: .ref q :: .int i :: .ref q :: r) s
    | 20 => kV1 st fun _ r => K (pc + len) ls r s
    | 21 => K (pc + len) ls (.null :: st) s
    | 22 => K a ls st s
    | 23 => kII st fun v w r => if v = w then K a ls r s else K (pc + len) ls r s
    | 24 => kII st fun v w r => if ¬ v = w then K a ls r s else K (pc + len) ls r s
    | 25 => kII st fun v w r => if v < w then K a ls r s else K (pc + len) ls r s
    | 26 => kII st fun v w r => if w ≤ v then K a ls r s else K (pc + len) ls r s
    | 27 => kII st fun v w r => if w < v then K a ls r s else K (pc + len) ls r s
    | 28 => kII st fun v w r => if v ≤ w then K a ls r s else K (pc + len) ls r s
    | 29 => kI st fun v r => if v = 0 then K a ls r s else K (pc + len) ls r s
    | 30 => kI st fun v r => if ¬ v = 0 then K a ls r s else K (pc + len) ls r s
    | 31 => kI st fun v r => if v < 0 then K a ls r s else K (pc + len) ls r s
    | 32 => kI st fun v r => if 0 ≤ v then K a ls r s else K (pc + len) ls r s
    | 33 => kI st fun v r => if 0 < v then K a ls r s else K (pc + len) ls r s
    | 34 => kI st fun v r => if v ≤ 0 then K a ls r s else K (pc + len) ls r s
    | 35 => kAn st fun v r => (match v with | none => K a ls r s | some _ => K (pc + len) ls r s)
    | 36 => kAn st fun v r => (match v with | none => K (pc + len) ls r s | some _ => K a ls r s)
    | 37 => kI st fun v r => (match pSw[a]? with | some w => kSw w.1 w.2 v (fun t => K t ls r s) | none => none)
    | 38 => kA st fun q r => (gFi s q a b).bind fun v => K (pc + len) ls (.int v :: r) s
    | 39 => kA st fun q r => (gFr s q a b).bind fun v => K (pc + len) ls (.ref v :: r) s
    | 40 => kA st fun q r => (gFv s q a b).bind fun v => oN v (K (pc + len) ls (.null :: r) s) (fun w => K (pc + len) ls (.ref w :: r) s)
    | 41 => kI st fun v r => kA r fun q r => (pF s q a b (.int v)).bind fun s' => K (pc + len) ls r s'
    | 42 => kAn st fun v r => kA r fun q r => (pF s q a b (va_rf v)).bind fun s' => K (pc + len) ls r s'
    | 43 => kIA st fun q i r => (gI s q i).bind fun v => K (pc + len) ls (.int v :: r) s
    | 44 => kIIA st fun q i v r => (pI s q i v).bind fun s' => K (pc + len) ls r s'
    | 45 => kIA st fun q i r => (gL s q i).bind fun v => K (pc + len) ls (.long v :: r) s
    | 46 => kJIA st fun q i v r => (pL s q i v).bind fun s' => K (pc + len) ls r s'
    | 47 => kIA st fun q i r => (gQ s q i).bind fun v => oN v (K (pc + len) ls (.null :: r) s) (fun w => K (pc + len) ls (.ref w :: r) s)
    | 48 => kAIA st fun q i v r => (pQ s q i v).bind fun s' => K (pc + len) ls r s'
    | 49 => kA st fun q r => (gN s q).bind fun v => K (pc + len) ls (.int v :: r) s
    | 50 => kI st fun v r => if v < 0 ∨ 100000 < v.toNatClampNeg then none else K (pc + len) ls (.ref s.1 :: r) (pNew s (cI v.toNatClampNeg (fun _ => 0)) v.toNatClampNeg)
    | 51 => kI st fun v r => if v < 0 ∨ 100000 < v.toNatClampNeg then none else K (pc + len) ls (.ref s.1 :: r) (pNew s (cL v.toNatClampNeg (fun _ => 0)) v.toNatClampNeg)
    | 52 => kI st fun v r => if v < 0 ∨ 100000 < v.toNatClampNeg then none else K (pc + len) ls (.ref s.1 :: r) (pNew s (cQ v.toNatClampNeg (fun _ => none)) v.toNatClampNeg)
    | 53 => K (pc + len) ls (.ref s.1 :: st) (pNew s (cO a (pD0.getD a [])) b)
    | 54 => bif stW st then some (.inr (a, s.1), pEx s) else none
    | 55 => pCall (fun M' as s' => bif rcv M' as s' then C M' as s' else none) K (pX K M pc ls) M pc len x a b ls st s
    | 56 => pCall C K nX M pc len x a b ls st s
    | 57 => pCall (fun M' as s' => bif rcv M' as s' then C M' as s' else none) K nX M pc len x a b ls st s
    | 58 => kA st fun _ r => bif stW r then K (pc + len) ls r s else none
    | 59 => kII st fun dp n r => kA r fun q1 r => kIA r fun q0 sp r => bif stW r then (pCp s q0 sp q1 dp n).bind fun s' => K (pc + len) ls r s' else none
    | 60 => kA st fun q r => bif stW r then (sLen pStr q).bind fun v => K (pc + len) ls (.int v :: r) s else none
    | 61 => kIA st fun q i r => bif stW r then (sAt pStr q i).bind fun v => K (pc + len) ls (.int v :: r) s else none
    | 62 => kI st fun v r => (match r with | [] => some (.inl (some (.int v)), s) | _ => none)
    | 63 => kJ st fun v r => (match r with | [] => some (.inl (some (.long v)), s) | _ => none)
    | 64 => kA st fun v r => (match r with | [] => some (.inl (some (.ref v)), s) | _ => none)
    | 65 => (match st with | [] => some (.inl none, s) | _ => none)
    | 66 => kI st fun v r => (match r with | [] => if v &&& 1 = v then some (.inl (some (.int v)), s) else none | _ => none)
    | 67 => K (pc + len) ls (.ref (pSB + a) :: st) s
    | 68 => kII st fun v w r => bif stW r then K (pc + len) ls (.int (if v < w then w else v) :: r) s else none
    | 69 => kII st fun v w r => bif stW r then K (pc + len) ls (.int (if w < v then w else v) :: r) s else none
    | 70 => kJJ st fun v w r => bif stW r then K (pc + len) ls (.long (if w < v then w else v) :: r) s else none
    | _ => none
def cD (F : Nat → Nat → List Value → pS → pR) : Nat → Nat → List Value → pS → pR
  | 0, _, _, _ => none
  | d + 1, M, as, s => F d M as s
def run : Nat → Nat → Nat → Nat → List Value → List Value → pS → pR
  | 0, _, _, _, _, _, _ => none
  | f + 1, d, M, pc, ls, st, s => match pTb M pc with
    | none => none
    | some e => pStep (fun M' as s' => cD (fun d' M' as s' => run f d' M' 0 (ent M' as) [] s') d M' as s') (fun pc' ls' st' s' => run f d M pc' ls' st' s') M pc e ls st s
/-- a value that a growing row of values comes to -/
def pc_ (p : pR) (q : Nat → pR) : Prop := ∀ r, p = some r → ∃ f, ∀ g, f ≤ g → q g = some r
theorem pc_k (p : pR) : pc_ p (fun _ => p) := fun _ h => ⟨0, fun _ _ => h⟩
theorem pc_n {q : Nat → pR} : pc_ none q := fun _ h => by cases h
theorem pc_if {c : Prop} [Decidable c] {a b : pR} {qa qb : Nat → pR} (ha : pc_ a qa) (hb : pc_ b qb) : pc_ (if c then a else b) (fun f => if c then qa f else qb f) := by
  by_cases h : c
  · simpa [h] using ha
  · simpa [h] using hb
theorem pc_b {c : Bool} {a b : pR} {qa qb : Nat → pR} (ha : pc_ a qa) (hb : pc_ b qb) : pc_ (bif c then a else b) (fun f => bif c then qa f else qb f) := by
  cases c
  · exact hb
  · exact ha
theorem pc_o {α : Type} (o : Option α) {K : α → pR} {Kf : Nat → α → pR} (h : ∀ x, pc_ (K x) (fun f => Kf f x)) : pc_ (o.bind K) (fun f => o.bind (Kf f)) := by
  cases o with
  | none => exact pc_n
  | some x => exact h x
section
variable {C : Nat → List Value → pS → pR} {K : Nat → List Value → List Value → pS → pR} {Cf : Nat → Nat → List Value → pS → pR} {Kf : Nat → Nat → List Value → List Value → pS → pR}
theorem pc_tI (o : Option Value) {F : Int32 → pR} {G : Nat → Int32 → pR} (h : ∀ x, pc_ (F x) (fun f => G f x)) : pc_ (tI o F) (fun f => tI o (G f)) := by
  unfold tI; split
  · exact h _
  · exact pc_n
theorem pc_tJ (o : Option Value) {F : Int64 → pR} {G : Nat → Int64 → pR} (h : ∀ x, pc_ (F x) (fun f => G f x)) : pc_ (tJ o F) (fun f => tJ o (G f)) := by
  unfold tJ; split
  · exact h _
  · exact pc_n
theorem pc_tA (o : Option Value) {F : Option Nat → pR} {G : Nat → Option Nat → pR} (h : ∀ x, pc_ (F x) (fun f => G f x)) : pc_ (tA o F) (fun f => tA o (G f)) := by
  unfold tA; split
  · exact h _
  · exact h _
  · exact pc_n
theorem pc_kI (st : List Value) {F : Int32 → List Value → pR} {G : Nat → Int32 → List Value → pR} (h : ∀ x r, pc_ (F x r) (fun f => G f x r)) : pc_ (kI st F) (fun f => kI st (G f)) := by
  unfold kI; split
  · exact h _ _
  · exact pc_n
theorem pc_kII (st : List Value) {F : Int32 → Int32 → List Value → pR} {G : Nat → Int32 → Int32 → List Value → pR} (h : ∀ x y r, pc_ (F x y r) (fun f => G f x y r)) : pc_ (kII st F) (fun f => kII st (G f)) := by
  unfold kII; split
  · exact h _ _ _
  · exact pc_n
theorem pc_kJ (st : List Value) {F : Int64 → List Value → pR} {G : Nat → Int64 → List Value → pR} (h : ∀ x r, pc_ (F x r) (fun f => G f x r)) : pc_ (kJ st F) (fun f => kJ st (G f)) := by
  unfold kJ; split
  · exact h _ _
  · exact pc_n
theorem pc_kJJ (st : List Value) {F : Int64 → Int64 → List Value → pR} {G : Nat → Int64 → Int64 → List Value → pR} (h : ∀ x y r, pc_ (F x y r) (fun f => G f x y r)) : pc_ (kJJ st F) (fun f => kJJ st (G f)) := by
  unfold kJJ; split
  · exact h _ _ _
  · exact pc_n
theorem pc_kA (st : List Value) {F : Nat → List Value → pR} {G : Nat → Nat → List Value → pR} (h : ∀ x r, pc_ (F x r) (fun f => G f x r)) : pc_ (kA st F) (fun f => kA st (G f)) := by
  unfold kA; split
  · exact h _ _
  · exact pc_n
theorem pc_kAn (st : List Value) {F : Option Nat → List Value → pR} {G : Nat → Option Nat → List Value → pR} (h : ∀ x r, pc_ (F x r) (fun f => G f x r)) : pc_ (kAn st F) (fun f => kAn st (G f)) := by
  unfold kAn; split
  · exact h _ _
  · exact h _ _
  · exact pc_n
theorem pc_kIA (st : List Value) {F : Nat → Int32 → List Value → pR} {G : Nat → Nat → Int32 → List Value → pR} (h : ∀ x y r, pc_ (F x y r) (fun f => G f x y r)) : pc_ (kIA st F) (fun f => kIA st (G f)) := by
  unfold kIA; split
  · exact h _ _ _
  · exact pc_n
theorem pc_kIIA (st : List Value) {F : Nat → Int32 → Int32 → List Value → pR} {G : Nat → Nat → Int32 → Int32 → List Value → pR} (h : ∀ x y z r, pc_ (F x y z r) (fun f => G f x y z r)) : pc_ (kIIA st F) (fun f => kIIA st (G f)) := by
  unfold kIIA; split
  · exact h _ _ _ _
  · exact pc_n
theorem pc_kJIA (st : List Value) {F : Nat → Int32 → Int64 → List Value → pR} {G : Nat → Nat → Int32 → Int64 → List Value → pR} (h : ∀ x y z r, pc_ (F x y z r) (fun f => G f x y z r)) : pc_ (kJIA st F) (fun f => kJIA st (G f)) := by
  unfold kJIA; split
  · exact h _ _ _ _
  · exact pc_n
theorem pc_kAIA (st : List Value) {F : Nat → Int32 → Option Nat → List Value → pR} {G : Nat → Nat → Int32 → Option Nat → List Value → pR} (h : ∀ x y z r, pc_ (F x y z r) (fun f => G f x y z r)) : pc_ (kAIA st F) (fun f => kAIA st (G f)) := by
  unfold kAIA; split
  · exact h _ _ _ _
  · exact h _ _ _ _
  · exact pc_n
theorem pc_kV1 (st : List Value) {F : Value → List Value → pR} {G : Nat → Value → List Value → pR} (h : ∀ x r, pc_ (F x r) (fun f => G f x r)) : pc_ (kV1 st F) (fun f => kV1 st (G f)) := by
  unfold kV1; split
  · exact h _ _
  · exact h _ _
  · exact pc_n
theorem pc_kSw (l : List (Int32 × Nat)) (d : Nat) (x : Int32) {F : Nat → pR} {G : Nat → Nat → pR} (h : ∀ x, pc_ (F x) (fun f => G f x)) : pc_ (kSw l d x F) (fun f => kSw l d x (G f)) := by
  induction l with
  | nil => exact h _
  | cons a l ih => obtain ⟨c, t⟩ := a; exact pc_if (h _) ih
theorem pc_kC0 {r : pR} {rf : Nat → pR} {F : pS → pR} {G : Nat → pS → pR} {X : Nat → Nat → pS → pR} {Y : Nat → Nat → Nat → pS → pR} (hr : pc_ r rf) (h : ∀ s, pc_ (F s) (fun f => G f s)) (hx : ∀ c i s, pc_ (X c i s) (fun f => Y f c i s)) : pc_ (kC0 r F X) (fun f => kC0 (rf f) (G f) (Y f)) := by
  cases r with
  | none => exact pc_n
  | some z =>
    obtain ⟨f1, h1⟩ := hr z rfl
    have : pc_ (kC0 (some z) F X) (fun f => kC0 (some z) (G f) (Y f)) := by
      unfold kC0
      split
      · next e => cases e; exact h _
      · next e => cases e; exact hx _ _ _
      · exact pc_n
    intro y hy
    obtain ⟨f2, h2⟩ := this y hy
    refine ⟨max f1 f2, fun g hg => ?_⟩
    show kC0 (rf g) (G g) (Y g) = some y
    rw [h1 g (by omega)]
    exact h2 g (by omega)
theorem pc_kC1 {r : pR} {rf : Nat → pR} {F : Int32 → pS → pR} {G : Nat → Int32 → pS → pR} {X : Nat → Nat → pS → pR} {Y : Nat → Nat → Nat → pS → pR} (hr : pc_ r rf) (h : ∀ x s, pc_ (F x s) (fun f => G f x s)) (hx : ∀ c i s, pc_ (X c i s) (fun f => Y f c i s)) : pc_ (kC1 r F X) (fun f => kC1 (rf f) (G f) (Y f)) := by
  cases r with
  | none => exact pc_n
  | some z =>
    obtain ⟨f1, h1⟩ := hr z rfl
    have : pc_ (kC1 (some z) F X) (fun f => kC1 (some z) (G f) (Y f)) := by
      unfold kC1
      split
      · next e => cases e; exact h _ _
      · next e => cases e; exact hx _ _ _
      · exact pc_n
    intro y hy
    obtain ⟨f2, h2⟩ := this y hy
    refine ⟨max f1 f2, fun g hg => ?_⟩
    show kC1 (rf g) (G g) (Y g) = some y
    rw [h1 g (by omega)]
    exact h2 g (by omega)
theorem pc_kC2 {r : pR} {rf : Nat → pR} {F : Int64 → pS → pR} {G : Nat → Int64 → pS → pR} {X : Nat → Nat → pS → pR} {Y : Nat → Nat → Nat → pS → pR} (hr : pc_ r rf) (h : ∀ x s, pc_ (F x s) (fun f => G f x s)) (hx : ∀ c i s, pc_ (X c i s) (fun f => Y f c i s)) : pc_ (kC2 r F X) (fun f => kC2 (rf f) (G f) (Y f)) := by
  cases r with
  | none => exact pc_n
  | some z =>
    obtain ⟨f1, h1⟩ := hr z rfl
    have : pc_ (kC2 (some z) F X) (fun f => kC2 (some z) (G f) (Y f)) := by
      unfold kC2
      split
      · next e => cases e; exact h _ _
      · next e => cases e; exact hx _ _ _
      · exact pc_n
    intro y hy
    obtain ⟨f2, h2⟩ := this y hy
    refine ⟨max f1 f2, fun g hg => ?_⟩
    show kC2 (rf g) (G g) (Y g) = some y
    rw [h1 g (by omega)]
    exact h2 g (by omega)
theorem pc_kC3 {r : pR} {rf : Nat → pR} {F : Nat → pS → pR} {G : Nat → Nat → pS → pR} {X : Nat → Nat → pS → pR} {Y : Nat → Nat → Nat → pS → pR} (hr : pc_ r rf) (h : ∀ x s, pc_ (F x s) (fun f => G f x s)) (hx : ∀ c i s, pc_ (X c i s) (fun f => Y f c i s)) : pc_ (kC3 r F X) (fun f => kC3 (rf f) (G f) (Y f)) := by
  cases r with
  | none => exact pc_n
  | some z =>
    obtain ⟨f1, h1⟩ := hr z rfl
    have : pc_ (kC3 (some z) F X) (fun f => kC3 (some z) (G f) (Y f)) := by
      unfold kC3
      split
      · next e => cases e; exact h _ _
      · next e => cases e; exact hx _ _ _
      · exact pc_n
    intro y hy
    obtain ⟨f2, h2⟩ := this y hy
    refine ⟨max f1 f2, fun g hg => ?_⟩
    show kC3 (rf g) (G g) (Y g) = some y
    rw [h1 g (by omega)]
    exact h2 g (by omega)
theorem pc_oN (v : Option Nat) {a : pR} {af : Nat → pR} {F : Nat → pR} {G : Nat → Nat → pR} (ha : pc_ a af) (h : ∀ x, pc_ (F x) (fun f => G f x)) : pc_ (oN v a F) (fun f => oN v (af f) (G f)) := by
  cases v with
  | none => exact ha
  | some w => exact h w
theorem pc_hX (l : List (Nat × Nat × Nat × Nat)) (pc c : Nat) {D : pR} {Df : Nat → pR} {F : Nat → pR} {G : Nat → Nat → pR} (hD : pc_ D Df) (h : ∀ x, pc_ (F x) (fun f => G f x)) : pc_ (hX l pc c F D) (fun f => hX l pc c (G f) (Df f)) := by
  induction l with
  | nil => exact hD
  | cons a l ih =>
    obtain ⟨a, b, x, k⟩ := a
    exact pc_b (pc_if (h _) ih) ih
theorem pc_X (M pc : Nat) (ls : List Value) (hK : ∀ pc ls st s, pc_ (K pc ls st s) (fun f => Kf f pc ls st s)) (c i : Nat) (s : pS) : pc_ (pX K M pc ls c i s) (fun f => pX (Kf f) M pc ls c i s) :=
  pc_hX _ _ _ (by split; exact pc_k _; exact pc_n) (fun _ => hK _ _ _ _)
theorem pc_call {X : Nat → Nat → pS → pR} {Xf : Nat → Nat → Nat → pS → pR} (M pc len : Nat) (t : Int) (a b : Nat) (ls st : List Value) (s : pS) (hC : ∀ M a s, pc_ (C M a s) (fun f => Cf f M a s)) (hK : ∀ pc ls st s, pc_ (K pc ls st s) (fun f => Kf f pc ls st s)) (hX : ∀ c i s, pc_ (X c i s) (fun f => Xf f c i s)) : pc_ (pCall C K X M pc len t a b ls st s) (fun f => pCall (Cf f) (Kf f) (Xf f) M pc len t a b ls st s) := by
  unfold pCall
  refine pc_b ?_ pc_n
  split
  · exact pc_kC0 (hC _ _ _) (fun _ => hK _ _ _ _) (fun _ _ _ => hX _ _ _)
  · exact pc_kC1 (hC _ _ _) (fun _ _ => hK _ _ _ _) (fun _ _ _ => hX _ _ _)
  · exact pc_kC2 (hC _ _ _) (fun _ _ => hK _ _ _ _) (fun _ _ _ => hX _ _ _)
  · exact pc_kC3 (hC _ _ _) (fun _ _ => hK _ _ _ _) (fun _ _ _ => hX _ _ _)
set_option maxRecDepth 10000 in
set_option maxHeartbeats 4000000 in
theorem pStep_c (M pc : Nat) (e : pE) (ls st : List Value) (s : pS) (hC : ∀ M a s, pc_ (C M a s) (fun f => Cf f M a s)) (hK : ∀ pc ls st s, pc_ (K pc ls st s) (fun f => Kf f pc ls st s)) : pc_ (pStep C K M pc e ls st s) (fun f => pStep (Cf f) (Kf f) M pc e ls st s) := by
  obtain ⟨len, op, x, a, b⟩ := e
  unfold pStep
  dsimp only
  split
  all_goals
    repeat' first
      | exact pc_n
      | exact pc_k _
      | exact hK _ _ _ _
      | exact pc_call M pc _ _ _ _ _ _ _ hC hK (fun _ _ _ => pc_n)
      | exact pc_call M pc _ _ _ _ _ _ _ (fun _ _ _ => pc_b (hC _ _ _) pc_n) hK (fun _ _ _ => pc_n)
      | exact pc_call M pc _ _ _ _ _ _ _ (fun _ _ _ => pc_b (hC _ _ _) pc_n) hK (fun _ _ _ => pc_X M pc _ hK _ _ _)
      | (refine pc_tI _ (fun _ => ?_))
      | (refine pc_tJ _ (fun _ => ?_))
      | (refine pc_tA _ (fun _ => ?_))
      | (refine pc_kI _ (fun _ _ => ?_))
      | (refine pc_kII _ (fun _ _ _ => ?_))
      | (refine pc_kJ _ (fun _ _ => ?_))
      | (refine pc_kJJ _ (fun _ _ _ => ?_))
      | (refine pc_kA _ (fun _ _ => ?_))
      | (refine pc_kAn _ (fun _ _ => ?_))
      | (refine pc_kIA _ (fun _ _ _ => ?_))
      | (refine pc_kIIA _ (fun _ _ _ _ => ?_))
      | (refine pc_kJIA _ (fun _ _ _ _ => ?_))
      | (refine pc_kAIA _ (fun _ _ _ _ => ?_))
      | (refine pc_kV1 _ (fun _ _ => ?_))
      | (refine pc_kSw _ _ _ (fun _ => ?_))
      | (refine pc_oN _ ?_ (fun _ => ?_))
      | (refine pc_o _ (fun _ => ?_))
      | (refine pc_if ?_ ?_)
      | (refine pc_b ?_ ?_)
      | split
end
/-- more fuel comes to the same -/
theorem run_up : ∀ (f : Nat) (d M pc : Nat) (ls st : List Value) (s : pS) (r : pO × pS), run f d M pc ls st s = some r → ∀ g, f ≤ g → run g d M pc ls st s = some r := by
  intro f
  induction f with
  | zero => intro d M pc ls st s r h; cases h
  | succ f ih =>
    intro d M pc ls st s r h g hg
    obtain ⟨g, rfl⟩ : ∃ k, g = k + 1 := ⟨g - 1, by omega⟩
    unfold run at h ⊢
    cases ht : pTb M pc with
    | none => rw [ht] at h; cases h
    | some e =>
      rw [ht] at h
      dsimp only at h ⊢
      obtain ⟨k, hk⟩ := pStep_c (Cf := fun _ M' as s' => cD (fun d' M' as s' => run g d' M' 0 (ent M' as) [] s') d M' as s') (Kf := fun _ pc' ls' st' s' => run g d M pc' ls' st' s') M pc e ls st s (fun M a s => by
          intro r h
          refine ⟨0, fun _ _ => ?_⟩
          cases d with
          | zero => cases h
          | succ d => exact ih _ _ _ _ _ _ _ h g (by omega)) (fun pc ls st s => by
          intro r h
          exact ⟨0, fun _ _ => ih _ _ _ _ _ _ _ h g (by omega)⟩) r h
      exact hk k (Nat.le_refl k)
/-- what a method comes to, from a place on -/
noncomputable def den (d M pc : Nat) (ls st : List Value) (s : pS) : pR := @dite pR (∃ r f, run f d M pc ls st s = some r) (Classical.propDecidable _) (fun h => some h.choose) (fun _ => none)
theorem den_iff (d M pc : Nat) (ls st : List Value) (s : pS) (r : pO × pS) : den d M pc ls st s = some r ↔ ∃ f, run f d M pc ls st s = some r := by
  unfold den
  constructor
  · intro h
    split at h
    · next hh =>
      obtain ⟨f, hf⟩ := hh.choose_spec
      cases h
      exact ⟨f, hf⟩
    · cases h
  · rintro ⟨f, hf⟩
    have hh : ∃ r f, run f d M pc ls st s = some r := ⟨r, f, hf⟩
    rw [dif_pos hh]
    obtain ⟨g, hg⟩ := hh.choose_spec
    have h1 := run_up f _ _ _ _ _ _ _ hf (max f g) (by omega)
    have h2 := run_up g _ _ _ _ _ _ _ hg (max f g) (by omega)
    rw [h1] at h2
    exact h2.symm
noncomputable def call (d M : Nat) (as : List Value) (s : pS) : pR := match d with
  | 0 => none
  | d' + 1 => den d' M 0 (ent M as) [] s
noncomputable def vcall (d M : Nat) (as : List Value) (s : pS) : pR := bif rcv M as s then call d M as s else none
theorem den_eq (d M pc : Nat) (ls st : List Value) (s : pS) : den d M pc ls st s = match pTb M pc with
    | none => none
    | some e => pStep (fun M' as s' => call d M' as s') (fun pc' ls' st' s' => den d M pc' ls' st' s') M pc e ls st s := by
  have key : ∀ r, den d M pc ls st s = some r ↔ (match pTb M pc with
    | none => none
    | some e => pStep (fun M' as s' => call d M' as s') (fun pc' ls' st' s' => den d M pc' ls' st' s') M pc e ls st s) = some r := by
    intro r
    rw [den_iff]
    constructor
    · rintro ⟨f, hf⟩
      cases f with
      | zero => cases hf
      | succ f =>
        unfold run at hf
        cases ht : pTb M pc with
        | none => rw [ht] at hf; cases hf
        | some e =>
          rw [ht] at hf
          dsimp only at hf ⊢
          obtain ⟨k, hk⟩ := pStep_c (Cf := fun _ M' as s' => call d M' as s') (Kf := fun _ pc' ls' st' s' => den d M pc' ls' st' s') M pc e ls st s (fun M a s => by
              intro r h
              refine ⟨0, fun _ _ => ?_⟩
              cases d with
              | zero => cases h
              | succ d => exact (den_iff _ _ _ _ _ _ _).mpr ⟨f, h⟩) (fun pc ls st s => by
              intro r h
              exact ⟨0, fun _ _ => (den_iff _ _ _ _ _ _ _).mpr ⟨f, h⟩⟩) r hf
          exact hk k (Nat.le_refl k)
    · intro h
      cases ht : pTb M pc with
      | none => rw [ht] at h; cases h
      | some e =>
        rw [ht] at h
        dsimp only at h
        obtain ⟨k, hk⟩ := pStep_c (Cf := fun f M' as s' => cD (fun d' M' as s' => run f d' M' 0 (ent M' as) [] s') d M' as s') (Kf := fun f pc' ls' st' s' => run f d M pc' ls' st' s') M pc e ls st s (fun M a s => by
            intro r h
            cases d with
            | zero => cases h
            | succ d =>
              obtain ⟨f, hf⟩ := (den_iff _ _ _ _ _ _ _).mp h
              exact ⟨f, fun g hg => run_up f _ _ _ _ _ _ _ hf g hg⟩) (fun pc ls st s => by
            intro r h
            obtain ⟨f, hf⟩ := (den_iff _ _ _ _ _ _ _).mp h
            exact ⟨f, fun g hg => run_up f _ _ _ _ _ _ _ hf g hg⟩) r h
        refine ⟨k + 1, ?_⟩
        unfold run
        rw [ht]
        exact hk k (Nat.le_refl k)
  cases h : den d M pc ls st s with
  | some r => exact ((key r).mp h).symm
  | none =>
    cases h2 : (match pTb M pc with
    | none => none
    | some e => pStep (fun M' as s' => call d M' as s') (fun pc' ls' st' s' => den d M pc' ls' st' s') M pc e ls st s) with
    | none => rfl
    | some r => rw [(key r).mpr h2] at h; cases h
/-- n steps at once, up to the places that 'stop' names -/
def itK (stop : Nat → Bool) (C : Nat → List Value → pS → pR) (K : Nat → List Value → List Value → pS → pR) (M : Nat) : Nat → Nat → List Value → List Value → pS → pR
  | 0, pc, ls, st, s => K pc ls st s
  | n + 1, pc, ls, st, s => match pTb M pc with
    | none => none
    | some e => pStep C (fun pc' ls' st' s' => bif stop pc' then K pc' ls' st' s' else itK stop C K M n pc' ls' st' s') M pc e ls st s
theorem den_it (stop : Nat → Bool) (n d M pc : Nat) (ls st : List Value) (s : pS) : den d M pc ls st s = itK stop (fun M' as s' => call d M' as s') (fun pc' ls' st' s' => den d M pc' ls' st' s') M n pc ls st s := by
  induction n generalizing pc ls st s with
  | zero => rfl
  | succ n ih =>
    rw [den_eq]
    unfold itK
    cases pTb M pc with
    | none => rfl
    | some e =>
      dsimp only
      congr 1
      funext pc' ls' st' s'
      cases stop pc' with
      | true => rfl
      | false => exact ih _ _ _ _
