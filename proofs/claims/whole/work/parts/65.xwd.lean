/-! WORDS, read by the program -/
theorem T_wordL {B : Nat → Nat} {N : Nat} (hB : ∀ i, B i < 256) (hN : N ≤ 600) (d : Nat) {b : pS} {L : xA} (D : Dj L) : ∀ (f a : Nat) (s : rT), N - a = f → a ≤ N → TX B N a s → ∃ s', Kf [25] [] s s' ∧ TX B N (we B N a) s' ∧ den (d + 1) m_Tp_readWord 13 [.ref 1] [] (xS b L s) = den (d + 1) m_Tp_readWord 51 [.ref 1] [] (xS b L s') := by
  intro f
  induction f with
  | zero =>
    intro a s hf ha T
    have e : we B N a = a := rn_0 (by omega)
    rw [e]
    have g4 : gFi (xS b L s) 1 8 4 = some (Int32.ofNat N) := T.1 ▸ (x1_gF D).2.2.2.2.1
    have g5 : gFi (xS b L s) 1 8 5 = some (Int32.ofNat a) := T.2.1 ▸ (x1_gF D).2.2.2.2.2.1
    refine ⟨s, Kf.rf _ _ s, T, ?_⟩
    rw [B_Tp_readWord_13, g5, obs, g4, obs, if_pos (by rw [ii_le (by omega) (by omega)]; omega)]
  | succ f ih =>
    intro a s hf ha T
    have g4 : gFi (xS b L s) 1 8 4 = some (Int32.ofNat N) := T.1 ▸ (x1_gF D).2.2.2.2.1
    have g5 : gFi (xS b L s) 1 8 5 = some (Int32.ofNat a) := T.2.1 ▸ (x1_gF D).2.2.2.2.2.1
    have sm := fun S => (isSml d S (x := Int32.ofNat (B a)) (n := B a) (Or.inl ⟨rfl, hB a⟩)).1
    rw [B_Tp_readWord_13, g5, obs, g4, obs, if_neg (by rw [ii_le (by omega) (by omega)]; omega), obs, T_byteAt d D (by omega), kC1_v, T.2.2 _ (by omega), sm, kC1_v]
    by_cases h : isL (B a) = true
    · have e : we B N a = we B N (a + 1) := rn_y (by omega) h
      rw [e]
      obtain ⟨s', k1, k2, k3⟩ := ih (a + 1) (wF s 25 (Int32.ofNat (a + 1))) (by omega) (by omega) (TX_w T)
      refine ⟨s', ((Kf.rf _ _ s).wF (by decide) _).tr k1, k2, ?_⟩
      rw [if_pos h, if_neg (by decide), g5, obs, (x1_pF D _).2.2.2.2.1, obs, ii_1]
      exact k3
    · have e : we B N a = a := rn_n (by omega) h
      rw [e]
      refine ⟨s, Kf.rf _ _ s, T, ?_⟩
      rw [if_neg h, if_pos rfl]
theorem T_word0 {B : Nat → Nat} {N : Nat} (hB : ∀ i, B i < 256) (hN : N ≤ 600) (d : Nat) {b : pS} {L : xA} {s : rT} {a : Nat} (D : Dj L) (ha : a ≤ N) (T : TX B N a s) : ∃ s', Kf [25, 26] [] s s' ∧ TX B N (we B N (sk B N a)) s' ∧ s'.1 26 = Int32.ofNat (sk B N a) ∧ vcall (d + 3) m_Tp_readWord [.ref 1] (xS b L s) = den (d + 2) m_Tp_readWord 51 [.ref 1] [] (xS b L s') := by
  obtain ⟨s1, k1, k2, k3⟩ := T_peek hB hN d (b := b) D ha T
  have hs := sk_le (B := B) ha
  obtain ⟨s', j1, j2, j3⟩ := T_wordL hB hN (d + 1) (b := b) D _ (sk B N a) (wF s1 26 (Int32.ofNat (sk B N a))) rfl hs (TX_k k2 ((Kf.rf [26] [] s1).wF (by decide) _))
  refine ⟨s', ((k1.up (by decide) (by decide)).wF (by decide) _).tr (j1.up (by decide) (by decide)), j2, j1.1 26 (by decide), (vT D rfl).trans ((B_Tp_readWord_0 _ _ _).trans ?_)⟩
  rw [k3, kC1_v, (x1_gF D).2.2.2.2.2.1, obs, (x1_pF D _).2.2.2.2.2, obs, k2.2.1]
  exact j3
theorem T_word_y {B : Nat → Nat} {N : Nat} (hB : ∀ i, B i < 256) (hN : N ≤ 600) (d : Nat) {b : pS} {L : xA} {s : rT} {a : Nat} (D : Dj L) (ha : a ≤ N) (T : TX B N a s) (h : sk B N a < we B N (sk B N a)) : ∃ s', Kf [25, 26] [] s s' ∧ TX B N (we B N (sk B N a)) s' ∧ s'.1 26 = Int32.ofNat (sk B N a) ∧ vcall (d + 3) m_Tp_readWord [.ref 1] (xS b L s) = some (.inl (some (.int 1)), xS b L s') := by
  obtain ⟨s', k1, k2, k3, k4⟩ := T_word0 hB hN d (b := b) D ha T
  have hs := sk_le (B := B) ha
  have hq : we B N (sk B N a) ≤ N := rn_le hs
  refine ⟨s', k1, k2, k3, k4.trans ?_⟩
  rw [B_Tp_readWord_51, (x1_gF D).2.2.2.2.2.1, obs, (x1_gF D).2.2.2.2.2.2, obs, k2.2.1, k3, if_pos (by rw [ii_lt (by omega) (by omega)]; omega)]
theorem T_word_n {B : Nat → Nat} {N : Nat} (hB : ∀ i, B i < 256) (hN : N ≤ 600) (d : Nat) {b : pS} {L : xA} {s : rT} {a : Nat} (D : Dj L) (ha : a ≤ N) (T : TX B N a s) (h : ¬ sk B N a < we B N (sk B N a)) : ∃ s', Kf [22, 23, 25, 26] [] s s' ∧ FX s' 1 (sk B N a) ∧ vcall (d + 3) m_Tp_readWord [.ref 1] (xS b L s) = some (.inl (some (.int 0)), xS b L s') := by
  obtain ⟨s', k1, k2, k3, k4⟩ := T_word0 hB hN d (b := b) D ha T
  have hs := sk_le (B := B) ha
  have hq : we B N (sk B N a) ≤ N := rn_le hs
  have hg : sk B N a ≤ we B N (sk B N a) := rn_ge hs
  have e : we B N (sk B N a) = sk B N a := by omega
  rw [e] at k2
  refine ⟨wF (wF s' 23 1) 22 (s'.1 25), ((k1.up (by decide) (by decide)).wF (by decide) _).wF (by decide) _, ⟨rfl, k2.2.1⟩, k4.trans ?_⟩
  rw [B_Tp_readWord_51, (x1_gF D).2.2.2.2.2.1, obs, (x1_gF D).2.2.2.2.2.2, obs, k2.2.1, k3, if_neg (by rw [ii_lt (by omega) (by omega)]; omega), T_failHere (d + 1) D, kC1_v, if_pos rfl, k2.2.1]
theorem T_isL {B : Nat → Nat} {N : Nat} (hB : ∀ i, B i < 256) (hN : N ≤ 600) (d : Nat) {b : pS} {L : xA} {s : rT} {st e q len : Nat} {w : Nat → Nat} (D : Dj L) (T : TX B N e s) (hst : s.1 26 = Int32.ofNat st) (H : HW q w len) (hl : st + len ≤ N) : ∀ (f i : Nat), i + f = len → ∃ x : Int32, ((∀ j, i ≤ j → j < len → B (st + j) = w j) → x = 1) ∧ ((¬ ∀ j, i ≤ j → j < len → B (st + j) = w j) → x = 0) ∧ den (d + 1) m_Tp_wordIs 20 [.ref 1, .ref q, .int (Int32.ofNat i)] [] (xS b L s) = some (.inl (some (.int x)), xS b L s) := by
  intro f
  have h7 := H.2.1
  induction f with
  | zero =>
    intro i hi
    refine ⟨1, fun _ => rfl, fun n => absurd (fun j h1 h2 => by omega) n, ?_⟩
    rw [B_Tp_wordIs_20, H.1, obs, if_pos (by rw [ii_le (by omega) (by omega)]; omega)]
  | succ f ih =>
    intro i hi
    obtain ⟨h1, h2, h3⟩ := H.2.2 i (by omega)
    have hb := hB (st + i)
    have ee : (Int32.ofNat (B (st + i)) = Int32.ofNat (w i)) = (B (st + i) = w i) := ii_eq (by omega) (by omega)
    rw [B_Tp_wordIs_20, H.1, obs, if_neg (by rw [ii_le (by omega) (by omega)]; omega), (x1_gF D).2.2.2.2.2.2, obs, hst, ii_add, T_byteAt d D (by omega), kC1_v, T.2.2 _ (by omega), h1, obs]
    simp only [ee]
    by_cases g : B (st + i) = w i
    · rw [if_pos g, ii_1]
      obtain ⟨x, x1, x2, x3⟩ := ih (i + 1) (by omega)
      refine ⟨x, fun n => x1 (fun j g1 g2 => n j (by omega) g2), fun n => x2 (fun m => n (fun j g1 g2 => ?_)), x3⟩
      by_cases ej : j = i
      · rw [ej]; exact g
      · exact m j (by omega) g2
    · exact ⟨0, fun n => absurd (n i (Nat.le_refl _) (by omega)) g, fun _ => rfl, by rw [if_neg g]⟩
theorem T_is {B : Nat → Nat} {N : Nat} (hB : ∀ i, B i < 256) (hN : N ≤ 600) (d : Nat) {b : pS} {L : xA} {s : rT} {st e q len : Nat} {w : Nat → Nat} (D : Dj L) (T : TX B N e s) (hst : s.1 26 = Int32.ofNat st) (he : e ≤ N) (hse : st ≤ e) (H : HW q w len) : ∃ x : Int32, (wq B st (e - st) w len → x = 1) ∧ (¬ wq B st (e - st) w len → x = 0) ∧ vcall (d + 2) m_Tp_wordIs [.ref 1, .ref q] (xS b L s) = some (.inl (some (.int x)), xS b L s) := by
  have h7 := H.2.1
  have h0 : vcall (d + 2) m_Tp_wordIs [.ref 1, .ref q] (xS b L s) = _ := (vT D rfl).trans (B_Tp_wordIs_0 _ _ _ _)
  rw [(x1_gF D).2.2.2.2.2.1, obs, (x1_gF D).2.2.2.2.2.2, obs, H.1, obs, T.2.1, hst, ii_sb hse] at h0
  have ee : (Int32.ofNat (e - st) = Int32.ofNat len) = (e - st = len) := ii_eq (by omega) (by omega)
  simp only [ee] at h0
  by_cases g : e - st = len
  · rw [if_pos g] at h0
    obtain ⟨x, x1, x2, x3⟩ := T_isL hB hN d (b := b) D T hst H (by omega) len 0 (by omega)
    exact ⟨x, fun n => x1 (fun j _ hj => n.2 j hj), fun n => x2 (fun m => n ⟨g, fun j hj => m j (Nat.zero_le _) hj⟩), h0.trans x3⟩
  · rw [if_neg g] at h0
    exact ⟨0, fun n => absurd n.1 g, fun _ => rfl, h0⟩
