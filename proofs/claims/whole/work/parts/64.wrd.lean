/-! WORDS -/
/-- a word of the program's text -/
def HW (q : Nat) (w : Nat → Nat) (len : Nat) : Prop := sLen pStr q = some (Int32.ofNat len) ∧ len ≤ 7 ∧ ∀ i, i < len → sAt pStr q (Int32.ofNat i) = some (Int32.ofNat (w i)) ∧ 97 ≤ w i ∧ w i ≤ 122
def wq (B : Nat → Nat) (st n : Nat) (w : Nat → Nat) (len : Nat) : Prop := n = len ∧ ∀ i, i < len → B (st + i) = w i
/-- letters, the last first -/
def rl (B : Nat → Nat) (a : Nat) : Nat → List Nat
  | 0 => []
  | n + 1 => B (a + n) :: rl B a n
theorem rl_mem {B : Nat → Nat} {a : Nat} : ∀ (n : Nat), (∀ i, i < n → 97 ≤ B (a + i) ∧ B (a + i) ≤ 122) → ∀ x ∈ rl B a n, 97 ≤ x ∧ x ≤ 122 := by
  intro n
  induction n with
  | zero => intro _ x hx; exact absurd hx (by simp [rl])
  | succ n ih =>
    intro h x hx
    rcases List.mem_cons.mp hx with e | hx
    · rw [e]; exact h n (by omega)
    · exact ih (fun i hi => h i (by omega)) x hx
theorem rl_eq {B w : Nat → Nat} {a : Nat} : ∀ (n m : Nat), rl B a n = rl w 0 m → n = m ∧ ∀ i, i < m → B (a + i) = w i := by
  intro n
  induction n with
  | zero =>
    intro m h
    cases m with
    | zero => exact ⟨rfl, fun i hi => by omega⟩
    | succ m => exact absurd h (by simp [rl])
  | succ n ih =>
    intro m h
    cases m with
    | zero => exact absurd h (by simp [rl])
    | succ m =>
      have h' : B (a + n) :: rl B a n = w (0 + m) :: rl w 0 m := h
      rw [List.cons.injEq] at h'
      obtain ⟨e1, e2⟩ := ih m h'.2
      subst e1
      refine ⟨rfl, fun i hi => ?_⟩
      by_cases e : i = n
      · rw [e]; have := h'.1; rwa [Nat.zero_add] at this
      · exact e2 i (by omega)
theorem rl_cg {B w : Nat → Nat} {a : Nat} : ∀ (n : Nat), (∀ i, i < n → B (a + i) = w i) → rl B a n = rl w 0 n := by
  intro n
  induction n with
  | zero => intro _; rfl
  | succ n ih =>
    intro h
    show B (a + n) :: rl B a n = w (0 + n) :: rl w 0 n
    rw [ih (fun i hi => h i (by omega)), h n (by omega), Nat.zero_add]
/-- a word as a number -/
def hw : List Nat → Nat
  | [] => 0
  | x :: xs => hw xs * 32 + (x - 96)
theorem hw_inj : ∀ (l k : List Nat), (∀ x ∈ l, 97 ≤ x ∧ x ≤ 122) → (∀ x ∈ k, 97 ≤ x ∧ x ≤ 122) → hw l = hw k → l = k := by
  intro l
  induction l with
  | nil =>
    intro k _ hk h
    cases k with
    | nil => rfl
    | cons y k =>
      have := hk y (by simp)
      have h : 0 = hw k * 32 + (y - 96) := h
      omega
  | cons x l ih =>
    intro k hl hk h
    have hx := hl x (by simp)
    cases k with
    | nil =>
      have h : hw l * 32 + (x - 96) = 0 := h
      omega
    | cons y k =>
      have hy := hk y (by simp)
      have h : hw l * 32 + (x - 96) = hw k * 32 + (y - 96) := h
      have e1 : x = y := by omega
      have e2 := ih k (fun z hz => hl z (by simp [hz])) (fun z hz => hk z (by simp [hz])) (by omega)
      rw [e1, e2]
theorem hw_lt {B : Nat → Nat} {a : Nat} : ∀ (n : Nat), (∀ i, i < n → 97 ≤ B (a + i) ∧ B (a + i) ≤ 122) → hw (rl B a n) < 32 ^ n := by
  intro n
  induction n with
  | zero => intro _; exact Nat.one_pos
  | succ n ih =>
    intro h
    have h1 := ih (fun i hi => h i (by omega))
    have h2 := h n (by omega)
    have e : hw (rl B a (n + 1)) = hw (rl B a n) * 32 + (B (a + n) - 96) := rfl
    rw [e, Nat.pow_succ]
    omega
theorem sh5 {v x : Nat} (hv : v < 33554432) (hx : x < 32) : ((Int32.ofNat v <<< ((5 : Int32) &&& 31)) ||| Int32.ofNat x) = Int32.ofNat (v * 32 + x) := by
  apply Int32.toBitVec_inj.mp
  apply BitVec.eq_of_toNat_eq
  have e : (Int32.ofNat v <<< ((5 : Int32) &&& 31)) = Int32.ofNat (v * 32) := by
    apply Int32.toBitVec_inj.mp
    apply BitVec.eq_of_toNat_eq
    have h5 : ((5 : Int32) &&& 31) = 5 := by decide
    rw [h5, Int32.toBitVec_shiftLeft]
    show (BitVec.ofNat 32 v <<< ((5 : Int32).toBitVec.smod 32)).toNat = (BitVec.ofNat 32 (v * 32)).toNat
    have h6 : ((5 : Int32).toBitVec.smod 32) = 5#32 := by decide
    rw [h6, BitVec.shiftLeft_eq', BitVec.toNat_shiftLeft, BitVec.toNat_ofNat, BitVec.toNat_ofNat]
    show ((v % 2 ^ 32) <<< 5) % 2 ^ 32 = _
    rw [Nat.shiftLeft_eq, BitVec.toNat_ofNat]
    omega
  rw [e, Int32.toBitVec_or, BitVec.toNat_or]
  show (BitVec.ofNat 32 (v * 32)).toNat ||| (BitVec.ofNat 32 x).toNat = (BitVec.ofNat 32 (v * 32 + x)).toNat
  rw [BitVec.toNat_ofNat, BitVec.toNat_ofNat, BitVec.toNat_ofNat, Nat.mod_eq_of_lt (by omega), Nat.mod_eq_of_lt (by omega), Nat.mod_eq_of_lt (by omega)]
  have := Nat.shiftLeft_add_eq_or_of_lt (i := 5) (b := x) (by omega) v
  rw [Nat.shiftLeft_eq] at this
  exact this.symm
/-- the reference's number of a word of n letters -/
def wv (B : Nat → Nat) (st n : Nat) : Nat := if n ≤ 6 then hw (rl B st n) else 0
theorem R_wordL {B : Nat → Nat} {N : Nat} (hB : ∀ i, B i < 256) (hN : N ≤ 600) (d : Nat) (b : pS) {τ : rT} {a : Nat} (T : TR B N a τ) (st : Nat) : ∀ (f n : Nat), N - (st + n) = f → st + n ≤ N → (∀ i, i < n → 97 ≤ B (st + i) ∧ B (st + i) ≤ 122) → den (d + 1) m_R_word 14 [.ref 30, .int (Int32.ofNat (wv B st n)), .int (Int32.ofNat n), .int (Int32.ofNat (st + n))] [] (mS b τ) = some (.inl (some (.int (Int32.ofNat (wv B st (we B N (st + n) - st))))), mS b τ) := by
  intro f
  have fin : ∀ n : Nat, n ≤ 600 → (if Int32.ofNat n ≤ 6 then some (.inl (some (.int (Int32.ofNat (wv B st n)))), mS b τ) else some (.inl (some (.int 0)), mS b τ) : pR) = some (.inl (some (.int (Int32.ofNat (wv B st n)))), mS b τ) := fun n hn => by
    have e : (Int32.ofNat n ≤ 6) = (n ≤ 6) := ii_le (b := 6) (by omega) (by omega)
    simp only [e]
    by_cases h : n ≤ 6
    · rw [if_pos h]
    · rw [if_neg h]; unfold wv; rw [if_neg h]; rfl
  induction f with
  | zero =>
    intro n hf hn hl
    have e : we B N (st + n) = st + n := rn_0 (by omega)
    rw [e, B_R_word_14]
    simp only [m_gF, T.1, obs]
    rw [if_pos (by rw [ii_le (by omega) (by omega)]; omega), Nat.add_sub_cancel_left]
    exact fin n (by omega)
  | succ f ih =>
    intro n hf hn hl
    have hb := hB (st + n)
    have sm := fun S => (isSml d S (x := Int32.ofNat (B (st + n))) (n := B (st + n)) (Or.inl ⟨rfl, hb⟩)).2
    have gb : gI (mS b τ) 32 (Int32.ofNat (st + n)) = some (Int32.ofNat (B (st + n))) := by rw [(m_gI b τ).2.1 _ (by omega), T.2.2 _ (by omega)]
    rw [B_R_word_14]
    simp only [m_gF, T.1, obs, gb, sm, kC1_v]
    rw [if_neg (by rw [ii_le (by omega) (by omega)]; omega)]
    by_cases h : isL (B (st + n)) = true
    · have hh := isL_t.mp h
      have e : we B N (st + n) = we B N (st + (n + 1)) := rn_y (by omega) h
      have k3 := ih (n + 1) (by omega) (by omega) (fun i hi => by
        by_cases ei : i = n
        · rw [ei]; exact hh
        · exact hl i (by omega))
      rw [e, ← k3, if_pos h, if_neg (by decide), ii_1, ii_1]
      have el : ((6 : Int32) ≤ Int32.ofNat n) = (6 ≤ n) := ii_le (a := 6) (by omega) (by omega)
      simp only [el]
      by_cases g : 6 ≤ n
      · rw [if_pos g]
        have : wv B st (n + 1) = 0 := by unfold wv; rw [if_neg (by omega)]
        rw [this]
        rfl
      · rw [if_neg g]
        have e0 : wv B st n = hw (rl B st n) := by unfold wv; rw [if_pos (by omega)]
        have e1 : wv B st (n + 1) = hw (rl B st n) * 32 + (B (st + n) - 96) := by unfold wv; rw [if_pos (by omega)]; rfl
        have lt := hw_lt n hl
        have l5 : (32 : Nat) ^ n ≤ 33554432 := by
          have : 32 ^ n ≤ 32 ^ 5 := Nat.pow_le_pow_right (by decide) (by omega)
          have e : (32 : Nat) ^ 5 = 33554432 := by decide
          omega
        have es : Int32.ofNat (B (st + n)) - 96 = Int32.ofNat (B (st + n) - 96) := ii_sb (y := 96) (by omega)
        rw [e0, e1, es, sh5 (by omega) (by omega)]
        rfl
    · have e : we B N (st + n) = st + n := rn_n (by omega) h
      rw [e, if_neg h, if_pos rfl, Nat.add_sub_cancel_left]
      exact fin n (by omega)
theorem R_word {B : Nat → Nat} {N : Nat} (hB : ∀ i, B i < 256) (hN : N ≤ 600) (d : Nat) (b : pS) {τ : rT} {a : Nat} (ha : a ≤ N) (T : TR B N a τ) : ∃ τ', Kf [4] [] τ τ' ∧ TR B N (sk B N a) τ' ∧ vcall (d + 2) m_R_word [.ref 30] (mS b τ) = some (.inl (some (.int (Int32.ofNat (wv B (sk B N a) (we B N (sk B N a) - sk B N a))))), mS b τ') := by
  obtain ⟨s1, k1, k2, k3⟩ := R_here hB hN d b ha T
  have hs := sk_le (B := B) ha
  refine ⟨s1, k1, k2, (vR rfl).trans ((B_R_word_0 _ _ _).trans ?_)⟩
  rw [k3, kC1_v]
  simp only [m_gF, k2.2.1, obs]
  exact R_wordL hB hN d b k2 (sk B N a) _ 0 rfl hs (fun i hi => by omega)
theorem R_ofL (d : Nat) (S : pS) {q len : Nat} {w : Nat → Nat} (H : HW q w len) (h6 : len ≤ 6) : ∀ (f i : Nat), i + f = len → den d m_R_of 4 [.ref q, .int (Int32.ofNat (hw (rl w 0 i))), .int (Int32.ofNat i)] [] S = some (.inl (some (.int (Int32.ofNat (hw (rl w 0 len))))), S) := by
  intro f
  induction f with
  | zero =>
    intro i hi
    rw [B_R_of_4, H.1, obs, if_pos (by rw [ii_le (by omega) (by omega)]; omega), show i = len by omega]
  | succ f ih =>
    intro i hi
    obtain ⟨h1, h2, h3⟩ := H.2.2 i (by omega)
    have lt := hw_lt (B := w) (a := 0) i (fun j hj => by rw [Nat.zero_add]; exact (H.2.2 j (by omega)).2)
    have l5 : (32 : Nat) ^ i ≤ 33554432 := by
      have : 32 ^ i ≤ 32 ^ 5 := Nat.pow_le_pow_right (by decide) (by omega)
      have e : (32 : Nat) ^ 5 = 33554432 := by decide
      omega
    have es : Int32.ofNat (w i) - 96 = Int32.ofNat (w i - 96) := ii_sb (y := 96) (by omega)
    rw [B_R_of_4, H.1, obs, if_neg (by rw [ii_le (by omega) (by omega)]; omega), h1, obs, es, sh5 (by omega) (by omega), ii_1, ← ih (i + 1) (by omega)]
    have e : hw (rl w 0 (i + 1)) = hw (rl w 0 i) * 32 + (w (0 + i) - 96) := rfl
    rw [e, Nat.zero_add]
theorem R_of (d : Nat) (S : pS) {q len : Nat} {w : Nat → Nat} (H : HW q w len) (h6 : len ≤ 6) : call (d + 1) m_R_of [.ref q] S = some (.inl (some (.int (Int32.ofNat (hw (rl w 0 len))))), S) := by
  refine cR.trans ((B_R_of_0 _ _ _).trans ?_)
  exact R_ofL d S H h6 len 0 (by omega)
theorem we_in {B : Nat → Nat} {N st : Nat} (hs : st ≤ N) : ∀ i, i < we B N st - st → 97 ≤ B (st + i) ∧ B (st + i) ≤ 122 := fun i hi => isL_t.mp (rn_in hs _ (by omega) (by unfold we at hi; omega))
/-- the reference's numbers tell whether it is the word -/
theorem word_eq {B : Nat → Nat} {N : Nat} (hB : ∀ i, B i < 256) (hN : N ≤ 600) {st len q : Nat} {w : Nat → Nat} (hs : st ≤ N) (H : HW q w len) (h6 : len ≤ 6) (h0 : 0 < len) : (Int32.ofNat (wv B st (we B N st - st)) = Int32.ofNat (hw (rl w 0 len))) = wq B st (we B N st - st) w len := by
  apply propext
  have hl : ∀ i, i < len → 97 ≤ w (0 + i) ∧ w (0 + i) ≤ 122 := fun i hi => by rw [Nat.zero_add]; exact (H.2.2 i hi).2
  have lt := hw_lt (B := w) (a := 0) len hl
  have p6 : ∀ n, n ≤ 6 → (32 : Nat) ^ n ≤ 1073741824 := fun n hn => by
    have : 32 ^ n ≤ 32 ^ 6 := Nat.pow_le_pow_right (by decide) hn
    have e : (32 : Nat) ^ 6 = 1073741824 := by decide
    omega
  have l5 := p6 len h6
  have hp : 0 < hw (rl w 0 len) := by
    obtain ⟨n, rfl⟩ : ∃ n, len = n + 1 := ⟨len - 1, by omega⟩
    have e : hw (rl w 0 (n + 1)) = hw (rl w 0 n) * 32 + (w (0 + n) - 96) := rfl
    have := hl n (by omega)
    omega
  unfold wv wq
  by_cases h : we B N st - st ≤ 6
  · have lt2 := hw_lt (B := B) (a := st) _ (we_in hs)
    have l6 := p6 _ h
    rw [if_pos h, ii_eq (by omega) (by omega)]
    constructor
    · intro e
      exact rl_eq _ _ (hw_inj _ _ (rl_mem _ (we_in hs)) (rl_mem _ hl) e)
    · rintro ⟨e1, e2⟩
      rw [e1, rl_cg _ e2]
  · rw [if_neg h, ii_eq (by omega) (by omega)]
    constructor
    · intro e; omega
    · rintro ⟨e1, e2⟩; omega
theorem R_passL {B : Nat → Nat} {N : Nat} (hB : ∀ i, B i < 256) (hN : N ≤ 600) (d : Nat) (b : pS) : ∀ (f a : Nat) (τ : rT), N - a = f → a ≤ N → TR B N a τ → ∃ τ', Kf [4] [] τ τ' ∧ TR B N (we B N a) τ' ∧ den (d + 1) m_R_pass 0 [.ref 30] [] (mS b τ) = some (.inl none, mS b τ') := by
  intro f
  induction f with
  | zero =>
    intro a τ hf ha T
    have e : we B N a = a := rn_0 (by omega)
    rw [e]
    refine ⟨τ, Kf.rf _ _ τ, T, ?_⟩
    rw [B_R_pass_0]
    simp only [m_gF, T.1, T.2.1, obs]
    rw [if_pos (by rw [ii_le (by omega) (by omega)]; omega)]
  | succ f ih =>
    intro a τ hf ha T
    have hb := hB a
    have sm := fun S => (isSml d S (x := Int32.ofNat (B a)) (n := B a) (Or.inl ⟨rfl, hb⟩)).2
    have gb : gI (mS b τ) 32 (Int32.ofNat a) = some (Int32.ofNat (B a)) := by rw [(m_gI b τ).2.1 _ (by omega), T.2.2 _ (by omega)]
    rw [B_R_pass_0]
    simp only [m_gF, T.1, T.2.1, obs, gb, sm, kC1_v]
    rw [if_neg (by rw [ii_le (by omega) (by omega)]; omega)]
    by_cases h : isL (B a) = true
    · have e : we B N a = we B N (a + 1) := rn_y (by omega) h
      rw [e]
      obtain ⟨s', k1, k2, k3⟩ := ih (a + 1) (wF τ 4 (Int32.ofNat (a + 1))) (by omega) (by omega) (TR_w T)
      refine ⟨s', ((Kf.rf _ _ τ).wF (by decide) _).tr k1, k2, ?_⟩
      rw [if_pos h, if_neg (by decide)]
      simp only [m_pF, obs, ii_1]
      exact k3
    · have e : we B N a = a := rn_n (by omega) h
      rw [e]
      refine ⟨τ, Kf.rf _ _ τ, T, ?_⟩
      rw [if_neg h, if_pos rfl]
theorem R_pass {B : Nat → Nat} {N : Nat} (hB : ∀ i, B i < 256) (hN : N ≤ 600) (d : Nat) (b : pS) {τ : rT} {a : Nat} (ha : a ≤ N) (T : TR B N a τ) : ∃ τ', Kf [4] [] τ τ' ∧ TR B N (we B N a) τ' ∧ vcall (d + 2) m_R_pass [.ref 30] (mS b τ) = some (.inl none, mS b τ') := by
  obtain ⟨s', k1, k2, k3⟩ := R_passL hB hN d b _ a τ rfl ha T
  exact ⟨s', k1, k2, (vR rfl).trans k3⟩
theorem we_eq {B : Nat → Nat} {N st len : Nat} (hs : st + len ≤ N) (h1 : ∀ j, j < len → isL (B (st + j)) = true) (h2 : st + len = N ∨ ¬ isL (B (st + len)) = true) : we B N st = st + len := by
  obtain ⟨g1, g2, g3, g4⟩ := rn_all (P := isL) (B := B) (N := N) _ st rfl (by omega)
  show rn isL B N st = _
  by_cases l1 : rn isL B N st < st + len
  · have := h1 (rn isL B N st - st) (by omega)
    rw [show st + (rn isL B N st - st) = rn isL B N st by omega] at this
    exact absurd this (g3 (by omega))
  · by_cases l2 : st + len < rn isL B N st
    · rcases h2 with e | e
      · omega
      · exact absurd (g4 (st + len) (by omega) l2) e
    · omega
theorem R_standsL {B : Nat → Nat} {N : Nat} (hB : ∀ i, B i < 256) (hN : N ≤ 600) (d : Nat) (b : pS) {τ : rT} {st q len : Nat} {w : Nat → Nat} (T : TR B N st τ) (hs : st ≤ N) (H : HW q w len) : ∀ (f i : Nat), i + f = len → (∀ j, j < i → st + j < N ∧ B (st + j) = w j) → ∃ x : Int32, (wq B st (we B N st - st) w len → x = 1) ∧ (¬ wq B st (we B N st - st) w len → x = 0) ∧ den (d + 1) m_R_standsHere 7 [.ref 30, .ref q, .int (Int32.ofNat i)] [] (mS b τ) = some (.inl (some (.int x)), mS b τ) := by
  intro f
  have h7 := H.2.1
  induction f with
  | zero =>
    intro i hi hm
    have ei : i = len := by omega
    subst ei
    have le : st + i ≤ N := by
      cases i with
      | zero => omega
      | succ k => have := (hm k (by omega)).1; omega
    have hl : ∀ j, j < i → isL (B (st + j)) = true := fun j hj => by rw [(hm j hj).2]; exact isL_t.mpr (H.2.2 j hj).2
    rw [B_R_standsHere_7, H.1, obs, if_pos (by rw [ii_le (by omega) (by omega)]; omega)]
    simp only [m_gF, T.1, T.2.1, obs, ii_add]
    by_cases g : N ≤ st + i
    · have e := we_eq le hl (Or.inl (by omega))
      refine ⟨1, fun _ => rfl, fun n => absurd ⟨by omega, fun j hj => (hm j hj).2⟩ n, ?_⟩
      rw [if_pos (by rw [ii_le (by omega) (by omega)]; omega)]
    · have hb := hB (st + i)
      have sm := fun S => (isSml d S (x := Int32.ofNat (B (st + i))) (n := B (st + i)) (Or.inl ⟨rfl, hb⟩)).2
      have gb : gI (mS b τ) 32 (Int32.ofNat (st + i)) = some (Int32.ofNat (B (st + i))) := by rw [(m_gI b τ).2.1 _ (by omega), T.2.2 _ (by omega)]
      rw [if_neg (by rw [ii_le (by omega) (by omega)]; omega), gb, obs, sm, kC1_v]
      by_cases g2 : isL (B (st + i)) = true
      · refine ⟨0, fun n => ?_, fun _ => rfl, ?_⟩
        · exfalso
          have n1 := n.1
          have : we B N st ≤ N := rn_le hs
          have h3 := rn_st (P := isL) (B := B) hs
          have e : rn isL B N st = st + i := by unfold we at n1; have := rn_ge (P := isL) (B := B) hs; omega
          rw [e] at h3
          exact h3 (by omega) g2
        · rw [if_pos g2, if_pos (by decide)]
      · have e := we_eq le hl (Or.inr g2)
        refine ⟨1, fun _ => rfl, fun n => absurd ⟨by omega, fun j hj => (hm j hj).2⟩ n, ?_⟩
        rw [if_neg g2, if_neg (by decide)]
  | succ f ih =>
    intro i hi hm
    obtain ⟨h1, h2, h3⟩ := H.2.2 i (by omega)
    rw [B_R_standsHere_7, H.1, obs, if_neg (by rw [ii_le (by omega) (by omega)]; omega)]
    simp only [m_gF, T.1, T.2.1, obs, ii_add]
    have hw' : we B N st ≤ N := rn_le hs
    have hg : st ≤ we B N st := rn_ge hs
    by_cases g : N ≤ st + i
    · refine ⟨0, fun n => ?_, fun _ => rfl, ?_⟩
      · have n1 := n.1; omega
      · rw [if_pos (by rw [ii_le (by omega) (by omega)]; omega)]
    · have hb := hB (st + i)
      have gb : gI (mS b τ) 32 (Int32.ofNat (st + i)) = some (Int32.ofNat (B (st + i))) := by rw [(m_gI b τ).2.1 _ (by omega), T.2.2 _ (by omega)]
      rw [if_neg (by rw [ii_le (by omega) (by omega)]; omega), gb, obs, h1, obs]
      have ee : (Int32.ofNat (B (st + i)) = Int32.ofNat (w i)) = (B (st + i) = w i) := ii_eq (by omega) (by omega)
      simp only [ee]
      by_cases g2 : B (st + i) = w i
      · rw [if_pos g2, ii_1]
        exact ih (i + 1) (by omega) (fun j hj => by
          by_cases ej : j = i
          · rw [ej]; exact ⟨by omega, g2⟩
          · exact hm j (by omega))
      · exact ⟨0, fun n => absurd (n.2 i (by omega)) g2, fun _ => rfl, by rw [if_neg g2]⟩
theorem R_stands {B : Nat → Nat} {N : Nat} (hB : ∀ i, B i < 256) (hN : N ≤ 600) (d : Nat) (b : pS) {τ : rT} {a q len : Nat} {w : Nat → Nat} (ha : a ≤ N) (T : TR B N a τ) (H : HW q w len) : ∃ (τ' : rT) (x : Int32), Kf [4] [] τ τ' ∧ TR B N (sk B N a) τ' ∧ (wq B (sk B N a) (we B N (sk B N a) - sk B N a) w len → x = 1) ∧ (¬ wq B (sk B N a) (we B N (sk B N a) - sk B N a) w len → x = 0) ∧ vcall (d + 2) m_R_standsHere [.ref 30, .ref q] (mS b τ) = some (.inl (some (.int x)), mS b τ') := by
  obtain ⟨s1, k1, k2, k3⟩ := R_here hB hN d b ha T
  have hs := sk_le (B := B) ha
  obtain ⟨x, x1, x2, x3⟩ := R_standsL hB hN d b k2 hs H len 0 (by omega) (fun j hj => by omega)
  refine ⟨s1, x, k1, k2, x1, x2, (vR rfl).trans ((B_R_standsHere_0 _ _ _ _).trans ?_)⟩
  rw [k3, kC1_v]
  exact x3
