/-! NUMBERS, read -/
theorem ii_sb {x y : Nat} (h : y ≤ x) : Int32.ofNat x - Int32.ofNat y = Int32.ofNat (x - y) := by
  have e : Int32.ofNat x = Int32.ofNat (x - y) + Int32.ofNat y := by rw [ii_add]; congr 1; omega
  rw [e, Int32.add_sub_cancel]
theorem T_numL {B : Nat → Nat} {N : Nat} (hB : ∀ i, B i < 256) (hN : N ≤ 600) (d : Nat) {b : pS} {L : xA} (D : Dj L) (lo hi : Int32) (st : Nat) : ∀ (f k : Nat) (s : rT), N - (st + k) = f → st + k ≤ N → (∀ i, i < k → 48 ≤ B (st + i) ∧ B (st + i) ≤ 57) → TX B N (st + k) s → ∃ s', Kf [25] [] s s' ∧ TX B N (de B N (st + k)) s' ∧ den (d + 1) m_Tp_readNumber 15 [.ref 1, .int lo, .int hi, .int (Int32.ofNat (nx B st k))] [] (xS b L s) = den (d + 1) m_Tp_readNumber 75 [.ref 1, .int lo, .int hi, .int (Int32.ofNat (nx B st (de B N (st + k) - st)))] [] (xS b L s') := by
  intro f
  induction f with
  | zero =>
    intro k s hf hk hd T
    have e : de B N (st + k) = st + k := rn_0 (by omega)
    rw [e]
    have g4 : gFi (xS b L s) 1 8 4 = some (Int32.ofNat N) := T.1 ▸ (x1_gF D).2.2.2.2.1
    have g5 : gFi (xS b L s) 1 8 5 = some (Int32.ofNat (st + k)) := T.2.1 ▸ (x1_gF D).2.2.2.2.2.1
    refine ⟨s, Kf.rf _ _ s, T, ?_⟩
    rw [B_Tp_readNumber_15, g5, obs, g4, obs, if_pos (by rw [ii_le (by omega) (by omega)]; omega), Nat.add_sub_cancel_left]
  | succ f ih =>
    intro k s hf hk hd T
    have g4 : gFi (xS b L s) 1 8 4 = some (Int32.ofNat N) := T.1 ▸ (x1_gF D).2.2.2.2.1
    have g5 : gFi (xS b L s) 1 8 5 = some (Int32.ofNat (st + k)) := T.2.1 ▸ (x1_gF D).2.2.2.2.2.1
    have hb := hB (st + k)
    have hx := nx_nr k hd
    have dg := fun S => (isDig d S (x := Int32.ofNat (B (st + k))) (n := B (st + k)) (Or.inl ⟨rfl, hb⟩)).1
    rw [B_Tp_readNumber_15, g5, obs, g4, obs, if_neg (by rw [ii_le (by omega) (by omega)]; omega), obs, T_byteAt d D (by omega), kC1_v, T.2.2 _ (by omega), dg, kC1_v]
    by_cases h : isD (B (st + k)) = true
    · have hh := isD_t.mp h
      have e : de B N (st + k) = de B N (st + (k + 1)) := rn_y (by omega) h
      rw [e]
      obtain ⟨s', k1, k2, k3⟩ := ih (k + 1) (wF s 25 (Int32.ofNat (st + (k + 1)))) (by omega) (by omega) (fun i hi => by
        by_cases ei : i = k
        · rw [ei]; exact hh
        · exact hd i (by omega)) (TX_w T)
      refine ⟨s', ((Kf.rf _ _ s).wF (by decide) _).tr k1, k2, ?_⟩
      rw [if_pos h, if_neg (by decide), g5, obs, T_byteAt d D (by omega), kC1_v, T.2.2 _ (by omega), g5, obs, (x1_pF D _).2.2.2.2.1, obs, ii_1]
      have ev : Int32.ofNat (nx B st k) * 10 + Int32.ofNat (B (st + k)) - 48 = Int32.ofNat (nx B st k * 10 + B (st + k) - 48) := by
        show Int32.ofNat (nx B st k) * Int32.ofNat 10 + Int32.ofNat (B (st + k)) - Int32.ofNat 48 = _
        rw [ii_mul, ii_add, ii_sb (by omega)]
      have en : (if Int32.ofNat (nx B st k * 10 + B (st + k) - 48) < 1000000 then Int32.ofNat (nx B st k * 10 + B (st + k) - 48) else 1000000) = Int32.ofNat (nx B st (k + 1)) := by
        have el : (Int32.ofNat (nx B st k * 10 + B (st + k) - 48) < 1000000) = (nx B st k * 10 + B (st + k) - 48 < 1000000) := ii_lt (b := 1000000) (by omega) (by omega)
        have e1 : nx B st (k + 1) = if nx B st k * 10 + B (st + k) - 48 < 1000000 then nx B st k * 10 + B (st + k) - 48 else 1000000 := rfl
        simp only [el]
        rw [e1]
        by_cases g : nx B st k * 10 + B (st + k) - 48 < 1000000
        · rw [if_pos g, if_pos g]
        · rw [if_neg g, if_neg g]; rfl
      rw [ev, en]
      exact k3
    · have e : de B N (st + k) = st + k := rn_n (by omega) h
      rw [e]
      refine ⟨s, Kf.rf _ _ s, T, ?_⟩
      rw [if_neg h, if_pos rfl, Nat.add_sub_cancel_left]
/-- the number that stands there -/
def nv (B : Nat → Nat) (N a : Nat) : Nat := nx B (sk B N a) (de B N (sk B N a) - sk B N a)
def nK (B : Nat → Nat) (N a : Nat) : Prop := sk B N a < de B N (sk B N a)
theorem T_num0 {B : Nat → Nat} {N : Nat} (hB : ∀ i, B i < 256) (hN : N ≤ 600) (d : Nat) {b : pS} {L : xA} {s : rT} {a : Nat} (D : Dj L) (ha : a ≤ N) (T : TX B N a s) (lo hi : Int32) : ∃ s', Kf [25, 26] [] s s' ∧ TX B N (de B N (sk B N a)) s' ∧ s'.1 26 = Int32.ofNat (sk B N a) ∧ vcall (d + 3) m_Tp_readNumber [.ref 1, .int lo, .int hi] (xS b L s) = den (d + 2) m_Tp_readNumber 75 [.ref 1, .int lo, .int hi, .int (Int32.ofNat (nv B N a))] [] (xS b L s') := by
  obtain ⟨s1, k1, k2, k3⟩ := T_peek hB hN d (b := b) D ha T
  have hs := sk_le (B := B) ha
  obtain ⟨s', j1, j2, j3⟩ := T_numL hB hN (d + 1) (b := b) D lo hi (sk B N a) _ 0 (wF s1 26 (Int32.ofNat (sk B N a))) rfl hs (fun i hi => by omega) (TX_k k2 (((Kf.rf [26] [] s1).wF (by decide) _)))
  refine ⟨s', ((k1.up (by decide) (by decide)).wF (by decide) _).tr (j1.up (by decide) (by decide)), j2, j1.1 26 (by decide), (vT D rfl).trans ((B_Tp_readNumber_0 _ _ _ _ _).trans ?_)⟩
  rw [k3, kC1_v, (x1_gF D).2.2.2.2.2.1, obs, (x1_pF D _).2.2.2.2.2, obs, k2.2.1]
  exact j3
theorem T_num_y {B : Nat → Nat} {N : Nat} (hB : ∀ i, B i < 256) (hN : N ≤ 600) (d : Nat) {b : pS} {L : xA} {s : rT} {a : Nat} (D : Dj L) (ha : a ≤ N) (T : TX B N a s) {lo hi : Int32} (h : nK B N a) (hl : lo ≤ Int32.ofNat (nv B N a)) (hh : Int32.ofNat (nv B N a) ≤ hi) : ∃ s', Kf [25, 26] [] s s' ∧ TX B N (de B N (sk B N a)) s' ∧ s'.1 26 = Int32.ofNat (sk B N a) ∧ vcall (d + 3) m_Tp_readNumber [.ref 1, .int lo, .int hi] (xS b L s) = some (.inl (some (.int (Int32.ofNat (nv B N a)))), xS b L s') := by
  obtain ⟨s', k1, k2, k3, k4⟩ := T_num0 hB hN d (b := b) D ha T lo hi
  have hs := sk_le (B := B) ha
  have hq : de B N (sk B N a) ≤ N := rn_le hs
  unfold nK at h
  refine ⟨s', k1, k2, k3, k4.trans ?_⟩
  rw [B_Tp_readNumber_75, (x1_gF D).2.2.2.2.2.1, obs, (x1_gF D).2.2.2.2.2.2, obs, k2.2.1, k3, if_pos (by rw [ii_eq (by omega) (by omega)]; omega), if_neg (Int32.not_lt.mpr hl), if_pos hh]
theorem T_num_1 {B : Nat → Nat} {N : Nat} (hB : ∀ i, B i < 256) (hN : N ≤ 600) (d : Nat) {b : pS} {L : xA} {s : rT} {a : Nat} (D : Dj L) (ha : a ≤ N) (T : TX B N a s) {lo hi : Int32} (h : ¬ nK B N a) : ∃ s', Kf [22, 23, 25, 26] [] s s' ∧ FX s' 1 (sk B N a) ∧ vcall (d + 3) m_Tp_readNumber [.ref 1, .int lo, .int hi] (xS b L s) = some (.inl (some (.int (-1))), xS b L s') := by
  obtain ⟨s', k1, k2, k3, k4⟩ := T_num0 hB hN d (b := b) D ha T lo hi
  have hs := sk_le (B := B) ha
  have hg : sk B N a ≤ de B N (sk B N a) := rn_ge hs
  have hq : de B N (sk B N a) ≤ N := rn_le hs
  unfold nK at h
  have e : de B N (sk B N a) = sk B N a := by omega
  rw [e] at k2
  refine ⟨wF (wF s' 23 1) 22 (s'.1 25), ((k1.up (by decide) (by decide)).wF (by decide) _).wF (by decide) _, ⟨rfl, k2.2.1⟩, k4.trans ?_⟩
  rw [B_Tp_readNumber_75, (x1_gF D).2.2.2.2.2.1, obs, (x1_gF D).2.2.2.2.2.2, obs, k2.2.1, k3, if_neg (by simp), T_failHere (d + 1) D, kC1_v]
  rw [k2.2.1]
theorem T_num_2 {B : Nat → Nat} {N : Nat} (hB : ∀ i, B i < 256) (hN : N ≤ 600) (d : Nat) {b : pS} {L : xA} {s : rT} {a : Nat} (D : Dj L) (ha : a ≤ N) (T : TX B N a s) {lo hi : Int32} (h : nK B N a) (hl : ¬ (lo ≤ Int32.ofNat (nv B N a) ∧ Int32.ofNat (nv B N a) ≤ hi)) : ∃ s', Kf [22, 23, 25, 26] [] s s' ∧ FX s' 2 (sk B N a) ∧ vcall (d + 3) m_Tp_readNumber [.ref 1, .int lo, .int hi] (xS b L s) = some (.inl (some (.int (-1))), xS b L s') := by
  obtain ⟨s', k1, k2, k3, k4⟩ := T_num0 hB hN d (b := b) D ha T lo hi
  have hs := sk_le (B := B) ha
  have hq : de B N (sk B N a) ≤ N := rn_le hs
  unfold nK at h
  refine ⟨wF (wF s' 23 2) 22 (s'.1 26), ((k1.up (by decide) (by decide)).wF (by decide) _).wF (by decide) _, ⟨rfl, k3⟩, k4.trans ?_⟩
  have e : den (d + 2) m_Tp_readNumber 103 [.ref 1, .int lo, .int hi, .int (Int32.ofNat (nv B N a))] [] (xS b L s') = some (.inl (some (.int (-1))), xS b L (wF (wF s' 23 2) 22 (s'.1 26))) := by
    rw [B_Tp_readNumber_103, T_failAt (d + 1) D, kC1_v]
  rw [B_Tp_readNumber_75, (x1_gF D).2.2.2.2.2.1, obs, (x1_gF D).2.2.2.2.2.2, obs, k2.2.1, k3, if_pos (by rw [ii_eq (by omega) (by omega)]; omega), e]
  by_cases g : Int32.ofNat (nv B N a) < lo
  · rw [if_pos g, k3]
  · rw [if_neg g, if_neg (fun g2 => hl ⟨Int32.not_lt.mp g, g2⟩), k3]
theorem R_numL {B : Nat → Nat} {N : Nat} (hB : ∀ i, B i < 256) (hN : N ≤ 600) (d : Nat) (b : pS) (lo hi x y : Int32) (st : Nat) : ∀ (f k : Nat) (τ : rT), N - (st + k) = f → st + k ≤ N → (∀ i, i < k → 48 ≤ B (st + i) ∧ B (st + i) ≤ 57) → TR B N (st + k) τ → ∃ τ', Kf [4] [] τ τ' ∧ TR B N (de B N (st + k)) τ' ∧ den (d + 1) m_R_readNumber 41 [.ref 30, .int lo, .int hi, .int x, .int y, .int (Int32.ofNat (nr B st k))] [] (mS b τ) = den (d + 1) m_R_readNumber 114 [.ref 30, .int lo, .int hi, .int x, .int y, .int (Int32.ofNat (nr B st (de B N (st + k) - st)))] [] (mS b τ') := by
  intro f
  induction f with
  | zero =>
    intro k τ hf hk hd T
    have e : de B N (st + k) = st + k := rn_0 (by omega)
    rw [e]
    refine ⟨τ, Kf.rf _ _ τ, T, ?_⟩
    rw [B_R_readNumber_41]
    simp only [m_gF, T.1, T.2.1, obs]
    rw [if_pos (by rw [ii_le (by omega) (by omega)]; omega), Nat.add_sub_cancel_left]
  | succ f ih =>
    intro k τ hf hk hd T
    have hb := hB (st + k)
    have hx := nx_nr k hd
    have dg := fun S => (isDig d S (x := Int32.ofNat (B (st + k))) (n := B (st + k)) (Or.inl ⟨rfl, hb⟩)).2
    have gb : gI (mS b τ) 32 (Int32.ofNat (st + k)) = some (Int32.ofNat (B (st + k))) := by rw [(m_gI b τ).2.1 _ (by omega), T.2.2 _ (by omega)]
    rw [B_R_readNumber_41]
    simp only [m_gF, T.1, T.2.1, obs, gb, dg, kC1_v]
    rw [if_neg (by rw [ii_le (by omega) (by omega)]; omega)]
    by_cases h : isD (B (st + k)) = true
    · have hh := isD_t.mp h
      have e : de B N (st + k) = de B N (st + (k + 1)) := rn_y (by omega) h
      rw [e]
      obtain ⟨s', k1, k2, k3⟩ := ih (k + 1) (wF τ 4 (Int32.ofNat (st + (k + 1)))) (by omega) (by omega) (fun i hi => by
        by_cases ei : i = k
        · rw [ei]; exact hh
        · exact hd i (by omega)) (TR_w T)
      refine ⟨s', ((Kf.rf _ _ τ).wF (by decide) _).tr k1, k2, ?_⟩
      have ev : 10 * Int32.ofNat (nr B st k) + Int32.ofNat (B (st + k)) - 48 = Int32.ofNat (10 * nr B st k + B (st + k) - 48) := by
        show Int32.ofNat 10 * Int32.ofNat (nr B st k) + Int32.ofNat (B (st + k)) - Int32.ofNat 48 = _
        rw [ii_mul, ii_add, ii_sb (by omega)]
      have el : (Int32.ofNat (nr B st k) ≤ 9999) = (nr B st k ≤ 9999) := ii_le (b := 9999) (by omega) (by omega)
      have e1 : nr B st (k + 1) = if nr B st k ≤ 9999 then 10 * nr B st k + B (st + k) - 48 else 10000 := rfl
      rw [e1] at k3
      rw [if_pos h, if_neg (by decide), ev]
      simp only [el]
      by_cases g : nr B st k ≤ 9999
      · rw [if_pos g] at k3
        rw [if_pos g, B_R_readNumber_99]
        simp only [m_gF, m_pF, T.2.1, obs, ii_1]
        exact k3
      · rw [if_neg g] at k3
        rw [if_neg g, B_R_readNumber_99]
        simp only [m_gF, m_pF, T.2.1, obs, ii_1]
        exact k3
    · have e : de B N (st + k) = st + k := rn_n (by omega) h
      rw [e]
      refine ⟨τ, Kf.rf _ _ τ, T, ?_⟩
      rw [if_neg h, if_pos rfl, Nat.add_sub_cancel_left]
theorem R_num0 {B : Nat → Nat} {N : Nat} (hB : ∀ i, B i < 256) (hN : N ≤ 600) (d : Nat) (b : pS) {τ : rT} {a : Nat} (ha : a ≤ N) (T : TR B N a τ) (h5 : τ.1 5 = -1) (h : nK B N a) (lo hi : Int32) : ∃ τ', Kf [4] [] τ τ' ∧ TR B N (de B N (sk B N a)) τ' ∧ vcall (d + 3) m_R_readNumber [.ref 30, .int lo, .int hi] (mS b τ) = den (d + 2) m_R_readNumber 114 [.ref 30, .int lo, .int hi, .int (pkR B N (sk B N a)), .int (Int32.ofNat (sk B N a)), .int (Int32.ofNat (nr B (sk B N a) (de B N (sk B N a) - sk B N a)))] [] (mS b τ') := by
  obtain ⟨s1, k1, k2, k3⟩ := R_here hB hN (d + 1) b ha T
  have hs := sk_le (B := B) ha
  have hq : de B N (sk B N a) ≤ N := rn_le hs
  unfold nK at h
  have hd : isD (B (sk B N a)) = true := rn_in hs _ (Nat.le_refl _) h
  have hp : pkR B N (sk B N a) = Int32.ofNat (B (sk B N a)) := if_pos (by omega)
  have dg := fun S => (isDig (d + 1) S (x := Int32.ofNat (B (sk B N a))) (n := B (sk B N a)) (Or.inl ⟨rfl, hB _⟩)).2
  obtain ⟨s', j1, j2, j3⟩ := R_numL hB hN (d + 1) b lo hi (pkR B N (sk B N a)) (Int32.ofNat (sk B N a)) (sk B N a) _ 0 s1 rfl hs (fun i hi => by omega) k2
  refine ⟨s', k1.tr j1, j2, (vR rfl).trans ((B_R_readNumber_0 _ _ _ _ _).trans ?_)⟩
  rw [R_fine1 (d + 1) b h5, kC1_v, if_pos (by decide), k3, kC1_v]
  simp only [m_gF, k2.2.1, obs]
  rw [hp, dg, kC1_v, hd, if_pos rfl, if_pos (by decide)]
  rw [hp] at j3
  exact j3
theorem R_num_1 {B : Nat → Nat} {N : Nat} (hB : ∀ i, B i < 256) (hN : N ≤ 600) (d : Nat) (b : pS) {τ : rT} {a : Nat} (ha : a ≤ N) (T : TR B N a τ) (h5 : τ.1 5 = -1) (h : ¬ nK B N a) (lo hi : Int32) : ∃ τ', Kf [4, 5, 6] [] τ τ' ∧ FR τ' 1 (sk B N a) ∧ vcall (d + 3) m_R_readNumber [.ref 30, .int lo, .int hi] (mS b τ) = some (.inl (some (.int 0)), mS b τ') := by
  obtain ⟨s1, k1, k2, k3⟩ := R_here hB hN (d + 1) b ha T
  have hs := sk_le (B := B) ha
  unfold nK at h
  have h5' : s1.1 5 = -1 := (k1.1 5 (by decide)).trans h5
  refine ⟨wF (wF s1 5 (Int32.ofNat (sk B N a))) 6 1, ((k1.up (by decide) (by decide)).wF (by decide) _).wF (by decide) _, ⟨rfl, rfl⟩, (vR rfl).trans ((B_R_readNumber_0 _ _ _ _ _).trans ?_)⟩
  have dg : ∀ S, call (d + 2) m_R_isDigit [.int (pkR B N (sk B N a))] S = some (.inl (some (.int 0)), S) := fun S => by
    by_cases g : sk B N a < N
    · have hp : pkR B N (sk B N a) = Int32.ofNat (B (sk B N a)) := if_pos g
      have hd : ¬ isD (B (sk B N a)) = true := fun g2 => h (by
        have e : de B N (sk B N a) = de B N (sk B N a + 1) := rn_y g g2
        have : sk B N a + 1 ≤ de B N (sk B N a + 1) := rn_ge (by omega)
        omega)
      rw [hp, (isDig (d + 1) S (x := Int32.ofNat (B (sk B N a))) (n := B (sk B N a)) (Or.inl ⟨rfl, hB _⟩)).2, if_neg hd]
    · have hp : pkR B N (sk B N a) = Int32.ofNat 0 := if_neg g
      rw [hp, (isDig (d + 1) S (x := Int32.ofNat 0) (n := 0) (Or.inl ⟨rfl, by decide⟩)).2, if_neg (by decide)]
  rw [R_fine1 (d + 1) b h5, kC1_v, if_pos (by decide), k3, kC1_v]
  simp only [m_gF, k2.2.1, obs, dg, kC1_v]
  rw [if_neg (by decide), R_wrong (d + 1) b h5', kC0_v]
theorem R_num_b (d : Nat) (b : pS) {τ : rT} (h5 : τ.1 5 ≠ -1) (lo hi : Int32) : vcall (d + 2) m_R_readNumber [.ref 30, .int lo, .int hi] (mS b τ) = some (.inl (some (.int 0)), mS b τ) := by
  refine (vR rfl).trans ((B_R_readNumber_0 _ _ _ _ _).trans ?_)
  rw [R_fine0 d b h5, kC1_v, if_neg (by decide)]
/-- both ways tell the same number in bounds -/
theorem nr_iff {B : Nat → Nat} {N : Nat} (hB : ∀ i, B i < 256) (hN : N ≤ 600) {a : Nat} (ha : a ≤ N) {lo hi : Int32} (hh : hi ≤ 9999) : (nv B N a < 2147483648) ∧ ((lo ≤ Int32.ofNat (nv B N a) ∧ Int32.ofNat (nv B N a) ≤ hi) ↔ (lo ≤ Int32.ofNat (nr B (sk B N a) (de B N (sk B N a) - sk B N a)) ∧ Int32.ofNat (nr B (sk B N a) (de B N (sk B N a) - sk B N a)) ≤ hi)) ∧ (Int32.ofNat (nv B N a) ≤ hi → nv B N a = nr B (sk B N a) (de B N (sk B N a) - sk B N a) ∧ nv B N a ≤ 9999) := by
  have hs := sk_le (B := B) ha
  obtain ⟨h1, h2, h3⟩ := nx_nr (B := B) (a := sk B N a) (de B N (sk B N a) - sk B N a) (fun i hi => isD_t.mp (rn_in hs _ (by omega) (by unfold de at hi; omega)))
  have no : ∀ n, 9999 < n → n ≤ 1000000 → ¬ (Int32.ofNat n ≤ hi) := fun n g1 g2 g3 => by
    have g4 : Int32.ofNat n ≤ Int32.ofNat 9999 := Int32.le_trans g3 hh
    rw [ii_le (by omega) (by omega)] at g4
    omega
  refine ⟨by unfold nv; omega, ?_, fun g => ?_⟩
  · rcases h3 with ⟨e, -⟩ | ⟨e1, e2⟩
    · unfold nv; rw [e]
    · exact ⟨fun g => absurd g.2 (no _ e1 h1), fun g => absurd g.2 (no _ e2 (by omega))⟩
  · rcases h3 with ⟨e, e'⟩ | ⟨e1, e2⟩
    · unfold nv; exact ⟨e, by omega⟩
    · exact absurd g (no _ e1 h1)
theorem R_num_y {B : Nat → Nat} {N : Nat} (hB : ∀ i, B i < 256) (hN : N ≤ 600) (d : Nat) (b : pS) {τ : rT} {a : Nat} (ha : a ≤ N) (T : TR B N a τ) (h5 : τ.1 5 = -1) (h : nK B N a) {lo hi : Int32} (hm : hi ≤ 9999) (hl : lo ≤ Int32.ofNat (nv B N a)) (hh : Int32.ofNat (nv B N a) ≤ hi) : ∃ τ', Kf [4] [] τ τ' ∧ TR B N (de B N (sk B N a)) τ' ∧ vcall (d + 3) m_R_readNumber [.ref 30, .int lo, .int hi] (mS b τ) = some (.inl (some (.int (Int32.ofNat (nv B N a)))), mS b τ') := by
  obtain ⟨s', k1, k2, k3⟩ := R_num0 hB hN d b ha T h5 h lo hi
  obtain ⟨-, -, e⟩ := nr_iff hB hN ha (lo := lo) hm
  rw [← (e hh).1] at k3
  refine ⟨s', k1, k2, k3.trans ?_⟩
  rw [B_R_readNumber_114, if_neg (Int32.not_lt.mpr hl), if_pos hh]
theorem R_num_2 {B : Nat → Nat} {N : Nat} (hB : ∀ i, B i < 256) (hN : N ≤ 600) (d : Nat) (b : pS) {τ : rT} {a : Nat} (ha : a ≤ N) (T : TR B N a τ) (h5 : τ.1 5 = -1) (h : nK B N a) {lo hi : Int32} (hm : hi ≤ 9999) (hl : ¬ (lo ≤ Int32.ofNat (nv B N a) ∧ Int32.ofNat (nv B N a) ≤ hi)) : ∃ τ', Kf [4, 5, 6] [] τ τ' ∧ FR τ' 2 (sk B N a) ∧ vcall (d + 3) m_R_readNumber [.ref 30, .int lo, .int hi] (mS b τ) = some (.inl (some (.int 0)), mS b τ') := by
  obtain ⟨s', k1, k2, k3⟩ := R_num0 hB hN d b ha T h5 h lo hi
  obtain ⟨-, e, -⟩ := nr_iff hB hN ha (lo := lo) hm
  rw [e] at hl
  have h5' : s'.1 5 = -1 := (k1.1 5 (by decide)).trans h5
  refine ⟨wF (wF s' 5 (Int32.ofNat (sk B N a))) 6 2, ((k1.up (by decide) (by decide)).wF (by decide) _).wF (by decide) _, ⟨rfl, rfl⟩, k3.trans ?_⟩
  generalize Int32.ofNat (nr B (sk B N a) (de B N (sk B N a) - sk B N a)) = v at hl
  have e2 : den (d + 2) m_R_readNumber 126 [.ref 30, .int lo, .int hi, .int (pkR B N (sk B N a)), .int (Int32.ofNat (sk B N a)), .int v] [] (mS b s') = some (.inl (some (.int 0)), mS b (wF (wF s' 5 (Int32.ofNat (sk B N a))) 6 2)) := by
    rw [B_R_readNumber_126, R_wrong (d + 1) b h5', kC0_v]
  rw [B_R_readNumber_114, e2]
  by_cases g : v < lo
  · rw [if_pos g]
  · rw [if_neg g, if_neg (fun g2 => hl ⟨Int32.not_lt.mp g, g2⟩)]
/-- a number in bounds, or the same fault -/
theorem NUM {B : Nat → Nat} {N : Nat} (hB : ∀ i, B i < 256) (hN : N ≤ 600) {a : Nat} (ha : a ≤ N) {lo hi : Int32} (hm : hi ≤ 9999) : (nK B N a ∧ lo ≤ Int32.ofNat (nv B N a) ∧ Int32.ofNat (nv B N a) ≤ hi) ∨ ∃ k p, k ≤ 3 ∧ p ≤ 600 ∧ (∀ d (b : pS) (L : xA) (s : rT), Dj L → TX B N a s → ∃ s', Kf [22, 23, 25, 26] [] s s' ∧ FX s' k p ∧ vcall (d + 3) m_Tp_readNumber [.ref 1, .int lo, .int hi] (xS b L s) = some (.inl (some (.int (-1))), xS b L s')) ∧ (∀ d (b : pS) (τ : rT), TR B N a τ → τ.1 5 = -1 → ∃ τ', Kf [4, 5, 6] [] τ τ' ∧ FR τ' k p ∧ vcall (d + 3) m_R_readNumber [.ref 30, .int lo, .int hi] (mS b τ) = some (.inl (some (.int 0)), mS b τ')) := by
  have hs := sk_le (B := B) ha
  by_cases h : nK B N a
  · by_cases g : lo ≤ Int32.ofNat (nv B N a) ∧ Int32.ofNat (nv B N a) ≤ hi
    · exact Or.inl ⟨h, g⟩
    · exact Or.inr ⟨2, sk B N a, by decide, by omega, fun d b L s D T => T_num_2 hB hN d D ha T h g, fun d b τ T h5 => R_num_2 hB hN d b ha T h5 h hm g⟩
  · exact Or.inr ⟨1, sk B N a, by decide, by omega, fun d b L s D T => T_num_1 hB hN d D ha T h, fun d b τ T h5 => R_num_1 hB hN d b ha T h5 h lo hi⟩
theorem SGN {B : Nat → Nat} {N : Nat} (hB : ∀ i, B i < 256) (hN : N ≤ 600) {a c : Nat} (ha : a ≤ N) (hc : c < 256) (h0 : 0 < c) : (sk B N a < N ∧ B (sk B N a) = c) ∨ ∃ k p, k ≤ 3 ∧ p ≤ 600 ∧ (∀ d (b : pS) (L : xA) (s : rT), Dj L → TX B N a s → ∃ s', Kf [22, 23, 25] [] s s' ∧ FX s' k p ∧ vcall (d + 3) m_Tp_sign [.ref 1, .int (Int32.ofNat c)] (xS b L s) = some (.inl (some (.int 0)), xS b L s')) ∧ (∀ d (b : pS) (τ : rT), TR B N a τ → τ.1 5 = -1 → ∃ τ', Kf [4, 5, 6] [] τ τ' ∧ FR τ' k p ∧ vcall (d + 2) m_R_sign [.ref 30, .int (Int32.ofNat c)] (mS b τ) = some (.inl none, mS b τ')) := by
  have hs := sk_le (B := B) ha
  by_cases h : sk B N a < N ∧ B (sk B N a) = c
  · exact Or.inl h
  · exact Or.inr ⟨1, sk B N a, by decide, by omega, fun d b L s D T => T_sign_n hB hN d D ha T hc h, fun d b τ T h5 => R_sign_n hB hN d b ha T h5 hc h0 h⟩
theorem FR_b {τ : rT} {k p : Nat} (h : FR τ k p) (hp : p ≤ 600) : τ.1 5 ≠ -1 := by
  rw [h.2]; intro e; rw [ii_n1 (by omega)] at e; exact e
