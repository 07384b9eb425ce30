/-! LOOPS and INTS for the functional proof -/
def fo {α : Type} (f : Nat → α → α) : Nat → α → α
  | 0, a => a
  | k + 1, a => f k (fo f k a)
theorem fo_loop {α β : Type} {F : Nat → α → β} {f : Nat → α → α} (n : Nat) (h : ∀ k a, k < n → F k a = F (k + 1) (f k a)) (a : α) : F 0 a = F n (fo f n a) := by
  have : ∀ m, m ≤ n → F 0 a = F m (fo f m a) := by
    intro m
    induction m with
    | zero => intro _; rfl
    | succ m ih => intro hm; exact (ih (by omega)).trans (h m _ (by omega))
  exact this n (Nat.le_refl n)
theorem fo_inv {α : Type} {f : Nat → α → α} {I : Nat → α → Prop} (n : Nat) (a : α) (h0 : I 0 a) (h : ∀ k a, k < n → I k a → I (k + 1) (f k a)) : I n (fo f n a) := by
  have : ∀ m, m ≤ n → I m (fo f m a) := by
    intro m
    induction m with
    | zero => intro _; exact h0
    | succ m ih => intro hm; exact h m _ (by omega) (ih (by omega))
  exact this n (Nat.le_refl n)
theorem fo_loopI {α β : Type} {F : Nat → α → β} {f : Nat → α → α} {I : Nat → α → Prop} (n : Nat) (a : α) (h0 : I 0 a) (h : ∀ k a, k < n → I k a → F k a = F (k + 1) (f k a) ∧ I (k + 1) (f k a)) : F 0 a = F n (fo f n a) ∧ I n (fo f n a) := by
  have : ∀ m, m ≤ n → F 0 a = F m (fo f m a) ∧ I m (fo f m a) := by
    intro m
    induction m with
    | zero => intro _; exact ⟨rfl, h0⟩
    | succ m ih => intro hm; obtain ⟨e, i⟩ := ih (by omega); obtain ⟨e2, i2⟩ := h m _ (by omega) i; exact ⟨e.trans e2, i2⟩
  exact this n (Nat.le_refl n)
theorem fo_congr {α : Type} {f g : Nat → α → α} (n : Nat) (a : α) (h : ∀ k a, k < n → f k a = g k a) : fo f n a = fo g n a := by
  induction n with
  | zero => rfl
  | succ n ih => show f n (fo f n a) = g n (fo g n a); rw [ih (fun k a hk => h k a (by omega)), h n _ (by omega)]
/-- a loop whose state is told by what holds of it -/
theorem ex_loop {α β : Type} {F : Nat → α → β} {I : Nat → α → Prop} (n : Nat) (a : α) (h0 : I 0 a) (h : ∀ k a, k < n → I k a → ∃ a', F k a = F (k + 1) a' ∧ I (k + 1) a') : ∃ a', F 0 a = F n a' ∧ I n a' := by
  have : ∀ m, m ≤ n → ∃ a', F 0 a = F m a' ∧ I m a' := by
    intro m
    induction m with
    | zero => intro _; exact ⟨a, rfl, h0⟩
    | succ m ih => intro hm; obtain ⟨b, e, i⟩ := ih (by omega); obtain ⟨b2, e2, i2⟩ := h m _ (by omega) i; exact ⟨b2, e.trans e2, i2⟩
  exact this n (Nat.le_refl n)
/-- the first of them, -1 for none -/
def fsA (P : Nat → Bool) : Nat → Nat → Int32
  | 0, _ => -1
  | m + 1, k => bif P k then Int32.ofNat k else fsA P m (k + 1)
theorem fs_loop {β : Type} {F : Nat → β} {R : Int32 → β} {P : Nat → Bool} (n : Nat) (h : ∀ k, k < n → F k = bif P k then R (Int32.ofNat k) else F (k + 1)) (h3 : F n = R (-1)) : F 0 = R (fsA P n 0) := by
  have : ∀ m k, k + m = n → F k = R (fsA P m k) := by
    intro m
    induction m with
    | zero => intro k hk; have : k = n := by omega
              subst this; exact h3
    | succ m ih =>
      intro k hk
      rw [h k (by omega)]
      unfold fsA
      cases P k with
      | true => rfl
      | false => exact ih (k + 1) (by omega)
  exact this n 0 (by omega)
theorem fsA_at (P : Nat → Bool) (m k : Nat) : fsA P m k = -1 ∨ ∃ j, k ≤ j ∧ j < k + m ∧ fsA P m k = Int32.ofNat j ∧ P j = true := by
  induction m generalizing k with
  | zero => exact Or.inl rfl
  | succ m ih =>
    unfold fsA
    cases h : P k with
    | true => exact Or.inr ⟨k, by omega, by omega, rfl, h⟩
    | false =>
      rcases ih (k + 1) with h1 | ⟨j, h1, h2, h3, h4⟩
      · exact Or.inl h1
      · exact Or.inr ⟨j, by omega, by omega, h3, h4⟩
theorem fsA_congr {P Q : Nat → Bool} (m k : Nat) (h : ∀ j, k ≤ j → j < k + m → P j = Q j) : fsA P m k = fsA Q m k := by
  induction m generalizing k with
  | zero => rfl
  | succ m ih => unfold fsA; rw [h k (by omega) (by omega), ih (k + 1) (fun j h1 h2 => h j (by omega) (by omega))]
theorem ii_add (a b : Nat) : Int32.ofNat a + Int32.ofNat b = Int32.ofNat (a + b) := (Int32.ofNat_add a b).symm
theorem ii_mul (a b : Nat) : Int32.ofNat a * Int32.ofNat b = Int32.ofNat (a * b) := (Int32.ofNat_mul a b).symm
theorem ii_1 (a : Nat) : Int32.ofNat a + 1 = Int32.ofNat (a + 1) := ii_add a 1
theorem ii_ti {a : Nat} (h : a < 2147483648) : (Int32.ofNat a).toInt = a := Int32.toInt_ofNat_of_lt h
theorem ii_tn {a : Nat} (h : a < 2147483648) : (Int32.ofNat a).toNatClampNeg = a := by
  unfold Int32.toNatClampNeg; rw [ii_ti h]; rfl
theorem ii_le {a b : Nat} (ha : a < 2147483648) (hb : b < 2147483648) : (Int32.ofNat a ≤ Int32.ofNat b) = (a ≤ b) := by
  rw [Int32.le_iff_toInt_le, ii_ti ha, ii_ti hb]; exact propext Int.ofNat_le
theorem ii_lt {a b : Nat} (ha : a < 2147483648) (hb : b < 2147483648) : (Int32.ofNat a < Int32.ofNat b) = (a < b) := by
  rw [Int32.lt_iff_toInt_lt, ii_ti ha, ii_ti hb]; exact propext Int.ofNat_lt
theorem ii_eq {a b : Nat} (ha : a < 2147483648) (hb : b < 2147483648) : (Int32.ofNat a = Int32.ofNat b) = (a = b) := by
  apply propext
  constructor
  · intro h
    have := congrArg Int32.toInt h
    rw [ii_ti ha, ii_ti hb] at this
    omega
  · intro h; rw [h]
theorem ii_n1 {a : Nat} (ha : a < 2147483648) : (Int32.ofNat a = -1) = False := by
  apply eq_false
  intro h
  have := congrArg Int32.toInt h
  rw [ii_ti ha] at this
  have e : (-1 : Int32).toInt = -1 := by decide
  rw [e] at this
  omega
theorem ii_nn {a : Nat} (ha : a < 2147483648) : (Int32.ofNat a < 0) = False := by
  have := ii_lt (b := 0) ha (by decide)
  rw [show (0 : Int32) = Int32.ofNat 0 from rfl, this]; simp
/-- between 0 and n: a number -/
theorem ii_ex {x : Int32} {n : Nat} (hn : n < 2147483648) (h0 : 0 ≤ x) (h1 : x < Int32.ofNat n) : ∃ k, k < n ∧ x = Int32.ofNat k := by
  have e0 := Int32.le_iff_toInt_le.mp h0
  have e1 := Int32.lt_iff_toInt_lt.mp h1
  rw [ii_ti hn] at e1
  have e2 : (0 : Int32).toInt = 0 := by decide
  rw [e2] at e0
  refine ⟨x.toInt.toNat, by omega, ?_⟩
  apply Int32.toInt_inj.mp
  rw [ii_ti (by omega)]
  omega
theorem gI_at {s : pS} {q n : Nat} {f : Nat → Int32} (h : s.2.2 q = some (cI n f)) {k : Nat} (hk : k < n) (hn : n < 2147483648) : gI s q (Int32.ofNat k) = some (f k) := by
  unfold gI
  rw [h]
  have h1 : (Int32.ofNat k < 0) = False := ii_nn (by omega)
  have h2 : (Int32.ofNat k).toNatClampNeg = k := ii_tn (by omega)
  simp only [h1, h2, false_or]
  rw [if_neg (by omega)]
theorem pI_at {s : pS} {q n : Nat} {f : Nat → Int32} (h : s.2.2 q = some (cI n f)) {k : Nat} (hk : k < n) (hn : n < 2147483648) (v : Int32) : pI s q (Int32.ofNat k) v = some (pSet s q (cI n (upd f k v))) := by
  unfold pI
  rw [h]
  have h1 : (Int32.ofNat k < 0) = False := ii_nn (by omega)
  have h2 : (Int32.ofNat k).toNatClampNeg = k := ii_tn (by omega)
  simp only [h1, h2, false_or]
  rw [if_neg (by omega)]
theorem kC0_v (s : pS) (K : pS → pR) (X : Nat → Nat → pS → pR) : kC0 (some (.inl none, s)) K X = K s := id rfl
theorem kC1_v (x : Int32) (s : pS) (K : Int32 → pS → pR) (X : Nat → Nat → pS → pR) : kC1 (some (.inl (some (.int x)), s)) K X = K x s := id rfl
theorem kC2_v (x : Int64) (s : pS) (K : Int64 → pS → pR) (X : Nat → Nat → pS → pR) : kC2 (some (.inl (some (.long x)), s)) K X = K x s := id rfl
theorem kC3_v (x : Nat) (s : pS) (K : Nat → pS → pR) (X : Nat → Nat → pS → pR) : kC3 (some (.inl (some (.ref x)), s)) K X = K x s := id rfl
theorem kC0_x (c i : Nat) (s : pS) (K : pS → pR) (X : Nat → Nat → pS → pR) : kC0 (some (.inr (c, i), s)) K X = X c i s := id rfl
theorem kC1_x (c i : Nat) (s : pS) (K : Int32 → pS → pR) (X : Nat → Nat → pS → pR) : kC1 (some (.inr (c, i), s)) K X = X c i s := id rfl
theorem kC2_x (c i : Nat) (s : pS) (K : Int64 → pS → pR) (X : Nat → Nat → pS → pR) : kC2 (some (.inr (c, i), s)) K X = X c i s := id rfl
theorem ii_m1 (a : Nat) : Int32.ofNat (a + 1) + (-1) = Int32.ofNat a := by
  rw [← ii_add a 1, Int32.add_assoc]
  show Int32.ofNat a + (1 + -1) = _
  rw [show (1 : Int32) + -1 = 0 from by decide, Int32.add_zero]
theorem ii_s1 (a : Nat) : Int32.ofNat (a + 1) - 1 = Int32.ofNat a := by
  rw [Int32.sub_eq_add_neg]; exact ii_m1 a
/-- not by rfl: simp would leave it to the kernel -/
theorem obs {α β : Type} (x : α) (f : α → Option β) : (some x).bind f = f x := by cases h : f x <;> simp [h]
