/-! SIGNS AND NUMBERS -/
theorem T_skip (d : Nat) {b : pS} {L : xA} {s : rT} (D : Dj L) {a : Nat} (h : s.1 25 = Int32.ofNat a) : vcall (d + 1) m_Tp_skip [.ref 1] (xS b L s) = some (.inl none, xS b L (wF s 25 (Int32.ofNat (a + 1)))) := by
  refine (vT D rfl).trans ((B_Tp_skip_0 _ _ _).trans ?_)
  rw [(x1_gF D).2.2.2.2.2.1, obs, (x1_pF D _).2.2.2.2.1, obs, h, ii_1]
theorem T_failHere (d : Nat) {b : pS} {L : xA} {s : rT} (D : Dj L) : vcall (d + 1) m_Tp_failHere [.ref 1] (xS b L s) = some (.inl (some (.int 0)), xS b L (wF (wF s 23 1) 22 (s.1 25))) := by
  refine (vT D rfl).trans ((B_Tp_failHere_0 _ _ _).trans ?_)
  rw [(x1_pF D _).2.2.1, obs, (x1_gF D).2.2.2.2.2.1, obs, (x1_pF D _).2.1, obs]
  rfl
theorem T_failAt (d : Nat) {b : pS} {L : xA} {s : rT} (D : Dj L) (k : Int32) : vcall (d + 1) m_Tp_failAtStart [.ref 1, .int k] (xS b L s) = some (.inl (some (.int 0)), xS b L (wF (wF s 23 k) 22 (s.1 26))) := by
  refine (vT D rfl).trans ((B_Tp_failAtStart_0 _ _ _ _).trans ?_)
  rw [(x1_pF D _).2.2.1, obs, (x1_gF D).2.2.2.2.2.2, obs, (x1_pF D _).2.1, obs]
  rfl
theorem T_startHere (d : Nat) {b : pS} {L : xA} {s : rT} (D : Dj L) : vcall (d + 1) m_Tp_startHere [.ref 1] (xS b L s) = some (.inl none, xS b L (wF s 26 (s.1 25))) := by
  refine (vT D rfl).trans ((B_Tp_startHere_0 _ _ _).trans ?_)
  rw [(x1_gF D).2.2.2.2.2.1, obs, (x1_pF D _).2.2.2.2.2, obs]
/-- a fault: its kind, its place -/
def FX (s : rT) (k p : Nat) : Prop := s.1 23 = Int32.ofNat k ∧ s.1 22 = Int32.ofNat p
def FR (τ : rT) (k p : Nat) : Prop := τ.1 6 = Int32.ofNat k ∧ τ.1 5 = Int32.ofNat p
theorem pkX_c {B : Nat → Nat} {N : Nat} (hB : ∀ i, B i < 256) (hN : N ≤ 600) {e c : Nat} (hc : c < 256) : (pkX B N e = Int32.ofNat c) = (e < N ∧ B e = c) := by
  apply propext
  have := hB e
  unfold pkX
  by_cases h : e < N
  · rw [if_pos h, ii_eq (by omega) (by omega)]; exact ⟨fun g => ⟨h, g⟩, fun g => g.2⟩
  · rw [if_neg h]
    refine ⟨fun g => ?_, fun g => absurd g.1 h⟩
    exact absurd g.symm (by rw [ii_n1 (by omega)]; exact id)
theorem pkR_c {B : Nat → Nat} {N : Nat} (hB : ∀ i, B i < 256) (hN : N ≤ 600) {e c : Nat} (hc : c < 256) (h0 : 0 < c) : (pkR B N e = Int32.ofNat c) = (e < N ∧ B e = c) := by
  apply propext
  have := hB e
  unfold pkR
  by_cases h : e < N
  · rw [if_pos h, ii_eq (by omega) (by omega)]; exact ⟨fun g => ⟨h, g⟩, fun g => g.2⟩
  · rw [if_neg h]
    refine ⟨fun g => ?_, fun g => absurd g.1 h⟩
    have g : Int32.ofNat 0 = Int32.ofNat c := g
    rw [ii_eq (by omega) (by omega)] at g
    omega
theorem T_sign_y {B : Nat → Nat} {N : Nat} (hB : ∀ i, B i < 256) (hN : N ≤ 600) (d : Nat) {b : pS} {L : xA} {s : rT} {a c : Nat} (D : Dj L) (ha : a ≤ N) (T : TX B N a s) (hc : c < 256) (h : sk B N a < N ∧ B (sk B N a) = c) : ∃ s', Kf [25] [] s s' ∧ TX B N (sk B N a + 1) s' ∧ vcall (d + 3) m_Tp_sign [.ref 1, .int (Int32.ofNat c)] (xS b L s) = some (.inl (some (.int 1)), xS b L s') := by
  obtain ⟨s1, k1, k2, k3⟩ := T_peek hB hN d (b := b) D ha T
  refine ⟨wF s1 25 (Int32.ofNat (sk B N a + 1)), k1.wF (by decide) _, TX_w k2, (vT D rfl).trans ((B_Tp_sign_0 _ _ _ _).trans ?_)⟩
  rw [k3, kC1_v, if_pos (by rw [pkX_c hB hN hc]; exact h), (x1_gF D).2.2.2.2.2.1, obs, (x1_pF D _).2.2.2.2.1, obs, k2.2.1, ii_1]
theorem T_sign_n {B : Nat → Nat} {N : Nat} (hB : ∀ i, B i < 256) (hN : N ≤ 600) (d : Nat) {b : pS} {L : xA} {s : rT} {a c : Nat} (D : Dj L) (ha : a ≤ N) (T : TX B N a s) (hc : c < 256) (h : ¬ (sk B N a < N ∧ B (sk B N a) = c)) : ∃ s', Kf [22, 23, 25] [] s s' ∧ FX s' 1 (sk B N a) ∧ vcall (d + 3) m_Tp_sign [.ref 1, .int (Int32.ofNat c)] (xS b L s) = some (.inl (some (.int 0)), xS b L s') := by
  obtain ⟨s1, k1, k2, k3⟩ := T_peek hB hN d (b := b) D ha T
  refine ⟨wF (wF s1 23 1) 22 (s1.1 25), ((k1.up (by decide) (by decide)).wF (by decide) _).wF (by decide) _, ⟨rfl, k2.2.1⟩, (vT D rfl).trans ((B_Tp_sign_0 _ _ _ _).trans ?_)⟩
  rw [k3, kC1_v, if_neg (by rw [pkX_c hB hN hc]; exact h), T_failHere (d + 1) D, kC1_v, if_pos (by decide)]
theorem R_fine1 (d : Nat) (b : pS) {τ : rT} (h : τ.1 5 = -1) : vcall (d + 1) m_R_fine [.ref 30] (mS b τ) = some (.inl (some (.int 1)), mS b τ) := by
  refine (vR rfl).trans ((B_R_fine_0 _ _ _).trans ?_)
  simp only [m_gF, obs, h, not_true_eq_false, if_false]
theorem R_fine0 (d : Nat) (b : pS) {τ : rT} (h : τ.1 5 ≠ -1) : vcall (d + 1) m_R_fine [.ref 30] (mS b τ) = some (.inl (some (.int 0)), mS b τ) := by
  refine (vR rfl).trans ((B_R_fine_0 _ _ _).trans ?_)
  simp only [m_gF, obs]
  rw [if_pos h]
theorem R_wrong (d : Nat) (b : pS) {τ : rT} (h : τ.1 5 = -1) (k p : Int32) : vcall (d + 1) m_R_wrong [.ref 30, .int k, .int p] (mS b τ) = some (.inl none, mS b (wF (wF τ 5 p) 6 k)) := by
  refine (vR rfl).trans ((B_R_wrong_0 _ _ _ _ _).trans ?_)
  simp only [m_gF, m_pF, obs, h, if_true]
theorem R_wrong0 (d : Nat) (b : pS) {τ : rT} (h : τ.1 5 ≠ -1) (k p : Int32) : vcall (d + 1) m_R_wrong [.ref 30, .int k, .int p] (mS b τ) = some (.inl none, mS b τ) := by
  refine (vR rfl).trans ((B_R_wrong_0 _ _ _ _ _).trans ?_)
  simp only [m_gF, obs]
  rw [if_neg h]
theorem R_sign_y {B : Nat → Nat} {N : Nat} (hB : ∀ i, B i < 256) (hN : N ≤ 600) (d : Nat) (b : pS) {τ : rT} {a c : Nat} (ha : a ≤ N) (T : TR B N a τ) (h5 : τ.1 5 = -1) (hc : c < 256) (h0 : 0 < c) (h : sk B N a < N ∧ B (sk B N a) = c) : ∃ τ', Kf [4] [] τ τ' ∧ TR B N (sk B N a + 1) τ' ∧ vcall (d + 2) m_R_sign [.ref 30, .int (Int32.ofNat c)] (mS b τ) = some (.inl none, mS b τ') := by
  obtain ⟨s1, k1, k2, k3⟩ := R_here hB hN d b ha T
  have h5' : s1.1 5 = -1 := (k1.1 5 (by decide)).trans h5
  refine ⟨wF s1 4 (Int32.ofNat (sk B N a + 1)), k1.wF (by decide) _, TR_w k2, (vR rfl).trans ((B_R_sign_0 _ _ _ _).trans ?_)⟩
  rw [R_fine1 d b h5, kC1_v, if_neg (by decide), k3, kC1_v, if_pos (by rw [pkR_c hB hN hc h0]; exact h), B_R_sign_24, R_fine1 d b h5', kC1_v, if_neg (by decide)]
  simp only [m_gF, m_pF, obs, k2.2.1, ii_1]
theorem R_sign_n {B : Nat → Nat} {N : Nat} (hB : ∀ i, B i < 256) (hN : N ≤ 600) (d : Nat) (b : pS) {τ : rT} {a c : Nat} (ha : a ≤ N) (T : TR B N a τ) (h5 : τ.1 5 = -1) (hc : c < 256) (h0 : 0 < c) (h : ¬ (sk B N a < N ∧ B (sk B N a) = c)) : ∃ τ', Kf [4, 5, 6] [] τ τ' ∧ FR τ' 1 (sk B N a) ∧ vcall (d + 2) m_R_sign [.ref 30, .int (Int32.ofNat c)] (mS b τ) = some (.inl none, mS b τ') := by
  obtain ⟨s1, k1, k2, k3⟩ := R_here hB hN d b ha T
  have h5' : s1.1 5 = -1 := (k1.1 5 (by decide)).trans h5
  have hs := sk_le (B := B) ha
  refine ⟨wF (wF s1 5 (Int32.ofNat (sk B N a))) 6 1, ((k1.up (by decide) (by decide)).wF (by decide) _).wF (by decide) _, ⟨rfl, rfl⟩, (vR rfl).trans ((B_R_sign_0 _ _ _ _).trans ?_)⟩
  have hb : (wF (wF s1 5 (Int32.ofNat (sk B N a))) 6 1).1 5 ≠ -1 := by
    show Int32.ofNat (sk B N a) ≠ -1
    intro e; rw [ii_n1 (by omega)] at e; exact e
  rw [R_fine1 d b h5, kC1_v, if_neg (by decide), k3, kC1_v, if_neg (by rw [pkR_c hB hN hc h0]; exact h)]
  simp only [m_gF, obs, k2.2.1]
  rw [R_wrong d b h5', kC0_v, B_R_sign_24, R_fine0 d b hb, kC1_v, if_pos (by decide)]
theorem R_sign_b (d : Nat) (b : pS) {τ : rT} (h5 : τ.1 5 ≠ -1) (c : Int32) : vcall (d + 2) m_R_sign [.ref 30, .int c] (mS b τ) = some (.inl none, mS b τ) := by
  refine (vR rfl).trans ((B_R_sign_0 _ _ _ _).trans ?_)
  rw [R_fine0 d b h5, kC1_v, if_pos (by decide), B_R_sign_24, R_fine0 d b h5, kC1_v, if_pos (by decide)]
/-- numbers: the program's and the reference's way of working one out -/
def nx (B : Nat → Nat) (a : Nat) : Nat → Nat
  | 0 => 0
  | k + 1 => if nx B a k * 10 + B (a + k) - 48 < 1000000 then nx B a k * 10 + B (a + k) - 48 else 1000000
def nr (B : Nat → Nat) (a : Nat) : Nat → Nat
  | 0 => 0
  | k + 1 => if nr B a k ≤ 9999 then 10 * nr B a k + B (a + k) - 48 else 10000
theorem nx_nr {B : Nat → Nat} {a : Nat} : ∀ k, (∀ i, i < k → 48 ≤ B (a + i) ∧ B (a + i) ≤ 57) → nx B a k ≤ 1000000 ∧ nr B a k ≤ 100000 ∧ ((nx B a k = nr B a k ∧ nr B a k ≤ 9999) ∨ (9999 < nx B a k ∧ 9999 < nr B a k)) := by
  intro k
  induction k with
  | zero => intro _; exact ⟨Nat.zero_le _, Nat.zero_le _, Or.inl ⟨rfl, Nat.zero_le _⟩⟩
  | succ k ih =>
    intro h
    obtain ⟨h1, h2, h3⟩ := ih (fun i hi => h i (by omega))
    have hk := h k (by omega)
    have e1 : nx B a (k + 1) = if nx B a k * 10 + B (a + k) - 48 < 1000000 then nx B a k * 10 + B (a + k) - 48 else 1000000 := rfl
    have e2 : nr B a (k + 1) = if nr B a k ≤ 9999 then 10 * nr B a k + B (a + k) - 48 else 10000 := rfl
    rw [e1, e2]
    by_cases g1 : nx B a k * 10 + B (a + k) - 48 < 1000000
    · rw [if_pos g1]
      by_cases g2 : nr B a k ≤ 9999
      · rw [if_pos g2]; omega
      · rw [if_neg g2]; omega
    · rw [if_neg g1]
      by_cases g2 : nr B a k ≤ 9999
      · rw [if_pos g2]; omega
      · rw [if_neg g2]; omega
theorem isDig (d : Nat) (S : pS) {x : Int32} {n : Nat} (h : (x = Int32.ofNat n ∧ n < 256) ∨ (n = 0 ∧ x = -1)) : call (d + 1) m_Tp_isDigit [.int x] S = some (.inl (some (.int (if isD n then 1 else 0))), S) ∧ call (d + 1) m_R_isDigit [.int x] S = some (.inl (some (.int (if isD n then 1 else 0))), S) := by
  rcases h with ⟨rfl, hn⟩ | ⟨rfl, rfl⟩
  · have e1 : (Int32.ofNat n < 48) = (n < 48) := ii_lt (b := 48) (by omega) (by omega)
    have e2 : ((57 : Int32) < Int32.ofNat n) = (57 < n) := ii_lt (a := 57) (by omega) (by omega)
    have e : (if (Int32.ofNat n) < 48 then some (Sum.inl (some (Value.int 0)), S) else if (57 : Int32) < Int32.ofNat n then some (Sum.inl (some (Value.int 0)), S) else some (Sum.inl (some (Value.int 1)), S) : pR) = some (.inl (some (.int (if isD n then 1 else 0))), S) := by
      simp only [e1, e2]
      by_cases g1 : n < 48
      · rw [if_pos g1, if_neg (fun g => by have := isD_t.mp g; omega)]
      · rw [if_neg g1]
        by_cases g2 : 57 < n
        · rw [if_pos g2, if_neg (fun g => by have := isD_t.mp g; omega)]
        · rw [if_neg g2, if_pos (isD_t.mpr (by omega))]
    exact ⟨cR.trans ((B_Tp_isDigit_0 _ _ _).trans e), cR.trans ((B_R_isDigit_0 _ _ _).trans e)⟩
  · exact ⟨cR.trans ((B_Tp_isDigit_0 _ _ _).trans rfl), cR.trans ((B_R_isDigit_0 _ _ _).trans rfl)⟩
theorem isSml (d : Nat) (S : pS) {x : Int32} {n : Nat} (h : (x = Int32.ofNat n ∧ n < 256) ∨ (n = 0 ∧ x = -1)) : call (d + 1) m_Tp_isLetter [.int x] S = some (.inl (some (.int (if isL n then 1 else 0))), S) ∧ call (d + 1) m_R_isSmall [.int x] S = some (.inl (some (.int (if isL n then 1 else 0))), S) := by
  rcases h with ⟨rfl, hn⟩ | ⟨rfl, rfl⟩
  · have e1 : (Int32.ofNat n < 97) = (n < 97) := ii_lt (b := 97) (by omega) (by omega)
    have e2 : ((122 : Int32) < Int32.ofNat n) = (122 < n) := ii_lt (a := 122) (by omega) (by omega)
    have e : (if (Int32.ofNat n) < 97 then some (Sum.inl (some (Value.int 0)), S) else if (122 : Int32) < Int32.ofNat n then some (Sum.inl (some (Value.int 0)), S) else some (Sum.inl (some (Value.int 1)), S) : pR) = some (.inl (some (.int (if isL n then 1 else 0))), S) := by
      simp only [e1, e2]
      by_cases g1 : n < 97
      · rw [if_pos g1, if_neg (fun g => by have := isL_t.mp g; omega)]
      · rw [if_neg g1]
        by_cases g2 : 122 < n
        · rw [if_pos g2, if_neg (fun g => by have := isL_t.mp g; omega)]
        · rw [if_neg g2, if_pos (isL_t.mpr (by omega))]
    exact ⟨cR.trans ((B_Tp_isLetter_0 _ _ _).trans e), cR.trans ((B_R_isSmall_0 _ _ _).trans e)⟩
  · exact ⟨cR.trans ((B_Tp_isLetter_0 _ _ _).trans rfl), cR.trans ((B_R_isSmall_0 _ _ _).trans rfl)⟩
