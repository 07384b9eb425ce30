/-! A LAW as a row of codes: below 1000 figures, 1000.. facts, 1008.. joins -/
def opI (c : Nat) (x y : Int32) : Int32 := if c = 1008 then x + y else if c = 1009 then x - y else if c = 1010 then x * y else if c = 1011 then (if y = 0 then 0 else x / y) else if c = 1012 then (if y = 0 then 0 else x - x / y * y) else if c = 1013 then (if x < y then x else y) else (if x < y then y else x)
def evS (fa : Nat → Int32) : List Nat → List Int32 → List Int32
  | [], st => st
  | c :: r, st => if c < 1000 then evS fa r (Int32.ofNat c :: st) else if c < 1008 then evS fa r (fa (c - 1000) :: st) else (match st with
    | y :: x :: st' => evS fa r (opI c x y :: st')
    | _ => [])
/-- the row goes well from this height: never too low, at most 64 high, at the end 1 -/
def hgt : List Nat → Nat → Bool
  | [], h => h == 1
  | c :: r, h => decide (c < 1015) && (if c < 1008 then decide (h < 64) && hgt r (h + 1) else decide (2 ≤ h) && hgt r (h - 1))
def rWhat (c : Nat) : Nat := if c < 1000 then 0 else if c < 1008 then 1 else [2, 3, 4, 5, 8, 6, 7].getD (c - 1008) 7
def rOf (c : Nat) : Nat := if c < 1000 then c else if c < 1008 then c - 1000 else 0
def lx (l : List Nat) : List Nat := if l = [] then [1000, 1001, 1010] else l
def clI (v : Int32) : Int32 := if v < 0 then 0 else if 99 < v then 99 else v
def mkv (l : List Nat) (a0 a1 a2 a3 a4 a5 a6 a7 : Int32) : Int32 := clI ((evS (fun i => [a0, a1, a2, a3, a4, a5, a6, a7].getD i 0) (lx l) []).headD 0)
/-- the stack in a row of ints -/
def stk (f : Nat → Int32) (st : List Int32) : Prop := ∀ i, i < st.length → f i = st.getD (st.length - 1 - i) 0
theorem stk_push {f : Nat → Int32} {st : List Int32} (h : stk f st) (v : Int32) : stk (upd f st.length v) (v :: st) := by
  intro i hi
  unfold upd
  by_cases e : i = st.length
  · subst e; simp
  · have hi2 : i < st.length := by simp at hi; omega
    rw [if_neg e, h i hi2]
    have : (v :: st).length - 1 - i = (st.length - 1 - i) + 1 := by simp; omega
    rw [this, List.getD_cons_succ]
theorem stk_top {f : Nat → Int32} {x : Int32} {st : List Int32} (h : stk f (x :: st)) : f st.length = x := by
  have := h st.length (by simp)
  simpa using this
theorem stk_pop {f : Nat → Int32} {x : Int32} {st : List Int32} (h : stk f (x :: st)) : stk f st := by
  intro i hi
  have := h i (by simp; omega)
  rw [this]
  have : (x :: st).length - 1 - i = (st.length - 1 - i) + 1 := by simp; omega
  rw [this, List.getD_cons_succ]
theorem stk_nil (f : Nat → Int32) : stk f [] := fun i h => by simp at h
theorem mkv_ge (l : List Nat) (a0 a1 a2 a3 a4 a5 a6 a7 : Int32) : 0 ≤ mkv l a0 a1 a2 a3 a4 a5 a6 a7 ∧ mkv l a0 a1 a2 a3 a4 a5 a6 a7 ≤ 99 := by
  unfold mkv clI
  generalize (evS _ _ _).headD 0 = v
  by_cases h1 : v < 0
  · rw [if_pos h1]; decide
  · rw [if_neg h1]
    by_cases h2 : 99 < v
    · rw [if_pos h2]; decide
    · rw [if_neg h2]; exact ⟨Int32.not_lt.mp h1, Int32.not_lt.mp h2⟩
