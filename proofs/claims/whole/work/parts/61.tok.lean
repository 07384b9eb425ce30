/-! READING: blanks, signs, words, numbers, by the program and by the reference -/
/-- how far a run of bytes of one kind goes -/
def ru (P : Nat → Bool) (B : Nat → Nat) : Nat → Nat → Nat
  | 0, a => a
  | f + 1, a => if P (B a) then ru P B f (a + 1) else a
def rn (P : Nat → Bool) (B : Nat → Nat) (N a : Nat) : Nat := ru P B (N - a) a
def isBl (x : Nat) : Bool := x == 32
def isL (x : Nat) : Bool := Nat.ble 97 x && Nat.ble x 122
def isD (x : Nat) : Bool := Nat.ble 48 x && Nat.ble x 57
theorem isBl_t {x : Nat} : isBl x = true ↔ x = 32 := by unfold isBl; simp
theorem isL_t {x : Nat} : isL x = true ↔ 97 ≤ x ∧ x ≤ 122 := by unfold isL; simp
theorem isD_t {x : Nat} : isD x = true ↔ 48 ≤ x ∧ x ≤ 57 := by unfold isD; simp
section
variable {P : Nat → Bool} {B : Nat → Nat} {N a : Nat}
theorem rn_0 (h : N ≤ a) : rn P B N a = a := by unfold rn; rw [show N - a = 0 by omega]; rfl
theorem rn_y (h : a < N) (hp : P (B a) = true) : rn P B N a = rn P B N (a + 1) := by
  unfold rn
  rw [show N - a = (N - (a + 1)) + 1 by omega]
  show (if _ then _ else _) = _
  rw [if_pos hp]
theorem rn_n (h : a < N) (hp : ¬ P (B a) = true) : rn P B N a = a := by
  unfold rn
  rw [show N - a = (N - (a + 1)) + 1 by omega]
  show (if _ then _ else _) = _
  rw [if_neg hp]
theorem rn_all : ∀ (f a : Nat), N - a = f → a ≤ N → a ≤ rn P B N a ∧ rn P B N a ≤ N ∧ (rn P B N a < N → ¬ P (B (rn P B N a)) = true) ∧ ∀ i, a ≤ i → i < rn P B N a → P (B i) = true := by
  intro f
  induction f with
  | zero => intro a hf ha; rw [rn_0 (by omega)]; exact ⟨by omega, by omega, fun h => by omega, fun i h1 h2 => by omega⟩
  | succ f ih =>
    intro a hf ha
    by_cases hp : P (B a) = true
    · obtain ⟨h1, h2, h3, h4⟩ := ih (a + 1) (by omega) (by omega)
      rw [rn_y (by omega) hp]
      refine ⟨by omega, h2, h3, fun i g1 g2 => ?_⟩
      by_cases e : i = a
      · rw [e]; exact hp
      · exact h4 i (by omega) g2
    · rw [rn_n (by omega) hp]; exact ⟨by omega, by omega, fun _ => hp, fun i h1 h2 => by omega⟩
theorem rn_ge (h : a ≤ N) : a ≤ rn P B N a := (rn_all _ a rfl h).1
theorem rn_le (h : a ≤ N) : rn P B N a ≤ N := (rn_all _ a rfl h).2.1
theorem rn_st (h : a ≤ N) : rn P B N a < N → ¬ P (B (rn P B N a)) = true := (rn_all _ a rfl h).2.2.1
theorem rn_in (h : a ≤ N) : ∀ i, a ≤ i → i < rn P B N a → P (B i) = true := (rn_all _ a rfl h).2.2.2
theorem rn_rn (h : a ≤ N) : rn P B N (rn P B N a) = rn P B N a := by
  by_cases g : rn P B N a < N
  · exact rn_n g (rn_st h g)
  · exact rn_0 (by omega)
end
def sk (B : Nat → Nat) (N a : Nat) : Nat := rn isBl B N a
def we (B : Nat → Nat) (N a : Nat) : Nat := rn isL B N a
def de (B : Nat → Nat) (N a : Nat) : Nat := rn isD B N a
theorem sk_ge {B : Nat → Nat} {N a : Nat} (h : a ≤ N) : a ≤ sk B N a := rn_ge h
theorem sk_le {B : Nat → Nat} {N a : Nat} (h : a ≤ N) : sk B N a ≤ N := rn_le h
theorem sk_sk {B : Nat → Nat} {N a : Nat} (h : a ≤ N) : sk B N (sk B N a) = sk B N a := rn_rn h
/-- where the reading stands -/
def TX (B : Nat → Nat) (N a : Nat) (s : rT) : Prop := s.1 24 = Int32.ofNat N ∧ s.1 25 = Int32.ofNat a ∧ ∀ i, i < 600 → s.2 2 i = Int32.ofNat (B i)
def TR (B : Nat → Nat) (N a : Nat) (τ : rT) : Prop := τ.1 3 = Int32.ofNat N ∧ τ.1 4 = Int32.ofNat a ∧ ∀ i, i < 600 → τ.2 32 i = Int32.ofNat (B i)
theorem TX_w {B : Nat → Nat} {N a a' : Nat} {s : rT} (h : TX B N a s) : TX B N a' (wF s 25 (Int32.ofNat a')) := ⟨h.1, rfl, h.2.2⟩
theorem TR_w {B : Nat → Nat} {N a a' : Nat} {s : rT} (h : TR B N a s) : TR B N a' (wF s 4 (Int32.ofNat a')) := ⟨h.1, rfl, h.2.2⟩
theorem TX_k {B : Nat → Nat} {N a : Nat} {s s' : rT} {F A : List Nat} (h : TX B N a s) (k : Kf F A s s') (e1 : 24 ∉ F := by decide) (e2 : 25 ∉ F := by decide) (e3 : 2 ∉ A := by decide) : TX B N a s' := ⟨by rw [k.1 24 e1]; exact h.1, by rw [k.1 25 e2]; exact h.2.1, by rw [k.2 2 e3]; exact h.2.2⟩
theorem TR_k {B : Nat → Nat} {N a : Nat} {s s' : rT} {F A : List Nat} (h : TR B N a s) (k : Kf F A s s') (e1 : 3 ∉ F := by decide) (e2 : 4 ∉ F := by decide) (e3 : 32 ∉ A := by decide) : TR B N a s' := ⟨by rw [k.1 3 e1]; exact h.1, by rw [k.1 4 e2]; exact h.2.1, by rw [k.2 32 e3]; exact h.2.2⟩
/-- what the byte there tells: the program, the reference -/
def pkX (B : Nat → Nat) (N e : Nat) : Int32 := if e < N then Int32.ofNat (B e) else -1
def pkR (B : Nat → Nat) (N e : Nat) : Int32 := if e < N then Int32.ofNat (B e) else 0
theorem ii_el {a c : Nat} (ha : a < 2147483648) (hc : c < 2147483648) : (Int32.ofNat a = Int32.ofNat c) = (a = c) := ii_eq ha hc
theorem T_byteAt (d : Nat) {b : pS} {L : xA} {s : rT} (D : Dj L) {i : Nat} (hi : i < 600) : vcall (d + 1) m_Tp_byteAt [.ref 1, .int (Int32.ofNat i)] (xS b L s) = some (.inl (some (.int (s.2 2 i))), xS b L s) := by
  refine (vT D rfl).trans ((B_Tp_byteAt_0 _ _ _ _).trans ?_)
  rw [if_neg (by rw [ii_nn (by omega)]; exact id), (x1_gF D).1, obs, (xf_gN D).1, obs, if_neg (by show ¬ (Int32.ofNat 600 ≤ Int32.ofNat i); rw [ii_le (by omega) (by omega)]; omega), obs, (xf_gI D).1 i hi, obs]
theorem T_peek37 {B : Nat → Nat} {N : Nat} (hB : ∀ i, B i < 256) (hN : N ≤ 600) (d : Nat) {b : pS} {L : xA} {s : rT} {a : Nat} (D : Dj L) (ha : a ≤ N) (T : TX B N a s) : den (d + 1) m_Tp_peek 37 [.ref 1] [] (xS b L s) = some (.inl (some (.int (pkX B N a))), xS b L s) := by
  obtain ⟨t1, t2, t3⟩ := T
  have g4 : gFi (xS b L s) 1 8 4 = some (Int32.ofNat N) := t1 ▸ (x1_gF D).2.2.2.2.1
  have g5 : gFi (xS b L s) 1 8 5 = some (Int32.ofNat a) := t2 ▸ (x1_gF D).2.2.2.2.2.1
  rw [B_Tp_peek_37, g5, obs, g4, obs]
  unfold pkX
  by_cases h : a < N
  · rw [if_neg (by rw [ii_le (by omega) (by omega)]; omega), obs, T_byteAt d D (by omega), kC1_v, t3 a (by omega), if_pos h]
  · rw [if_pos (by rw [ii_le (by omega) (by omega)]; omega), if_neg h]
theorem T_peekL {B : Nat → Nat} {N : Nat} (hB : ∀ i, B i < 256) (hN : N ≤ 600) (d : Nat) {b : pS} {L : xA} (D : Dj L) : ∀ (f a : Nat) (s : rT), N - a = f → a ≤ N → TX B N a s → ∃ s', Kf [25] [] s s' ∧ TX B N (sk B N a) s' ∧ den (d + 1) m_Tp_peek 0 [.ref 1] [] (xS b L s) = some (.inl (some (.int (pkX B N (sk B N a)))), xS b L s') := by
  intro f
  induction f with
  | zero =>
    intro a s hf ha T
    have e : sk B N a = a := rn_0 (by omega)
    rw [e]
    refine ⟨s, Kf.rf _ _ s, T, ?_⟩
    have g4 : gFi (xS b L s) 1 8 4 = some (Int32.ofNat N) := T.1 ▸ (x1_gF D).2.2.2.2.1
    have g5 : gFi (xS b L s) 1 8 5 = some (Int32.ofNat a) := T.2.1 ▸ (x1_gF D).2.2.2.2.2.1
    rw [B_Tp_peek_0, g5, obs, g4, obs, if_pos (by rw [ii_le (by omega) (by omega)]; omega), T_peek37 hB hN d D ha T]
  | succ f ih =>
    intro a s hf ha T
    have g4 : gFi (xS b L s) 1 8 4 = some (Int32.ofNat N) := T.1 ▸ (x1_gF D).2.2.2.2.1
    have g5 : gFi (xS b L s) 1 8 5 = some (Int32.ofNat a) := T.2.1 ▸ (x1_gF D).2.2.2.2.2.1
    have hb := hB a
    have h32 : (Int32.ofNat (B a) = 32) = (B a = 32) := ii_eq (b := 32) (by omega) (by omega)
    rw [B_Tp_peek_0, g5, obs, g4, obs, if_neg (by rw [ii_le (by omega) (by omega)]; omega), obs, T_byteAt d D (by omega), kC1_v, T.2.2 a (by omega)]
    by_cases h : B a = 32
    · have e : sk B N a = sk B N (a + 1) := rn_y (by omega) (isBl_t.mpr h)
      rw [e]
      obtain ⟨s', k1, k2, k3⟩ := ih (a + 1) (wF s 25 (Int32.ofNat (a + 1))) (by omega) (by omega) (TX_w T)
      refine ⟨s', ((Kf.rf _ _ s).wF (by decide) _).tr k1, k2, ?_⟩
      rw [if_neg (by rw [h32]; exact fun g => g h), g5, obs, (x1_pF D _).2.2.2.2.1, obs, ii_1]
      exact k3
    · have e : sk B N a = a := rn_n (by omega) (fun g => h (isBl_t.mp g))
      rw [e]
      refine ⟨s, Kf.rf _ _ s, T, ?_⟩
      rw [if_pos (by rw [h32]; exact h), T_peek37 hB hN d D ha T]
theorem T_peek {B : Nat → Nat} {N : Nat} (hB : ∀ i, B i < 256) (hN : N ≤ 600) (d : Nat) {b : pS} {L : xA} {s : rT} {a : Nat} (D : Dj L) (ha : a ≤ N) (T : TX B N a s) : ∃ s', Kf [25] [] s s' ∧ TX B N (sk B N a) s' ∧ vcall (d + 2) m_Tp_peek [.ref 1] (xS b L s) = some (.inl (some (.int (pkX B N (sk B N a)))), xS b L s') := by
  obtain ⟨s', k1, k2, k3⟩ := T_peekL hB hN d (b := b) D _ a s rfl ha T
  exact ⟨s', k1, k2, (vT D rfl).trans k3⟩
theorem R_here38 {B : Nat → Nat} {N : Nat} (hB : ∀ i, B i < 256) (hN : N ≤ 600) (d : Nat) (b : pS) {τ : rT} {a : Nat} (ha : a ≤ N) (T : TR B N a τ) : den d m_R_here 38 [.ref 30] [] (mS b τ) = some (.inl (some (.int (pkR B N a))), mS b τ) := by
  obtain ⟨t1, t2, t3⟩ := T
  rw [B_R_here_38]
  simp (disch := omega) only [m_gF, t1, t2, obs]
  unfold pkR
  by_cases h : a < N
  · rw [if_neg (by rw [ii_le (by omega) (by omega)]; omega), if_pos h, (m_gI b τ).2.1 a (by omega), obs, t3 a (by omega)]
  · rw [if_pos (by rw [ii_le (by omega) (by omega)]; omega), if_neg h]
theorem R_hereL {B : Nat → Nat} {N : Nat} (hB : ∀ i, B i < 256) (hN : N ≤ 600) (d : Nat) (b : pS) : ∀ (f a : Nat) (τ : rT), N - a = f → a ≤ N → TR B N a τ → ∃ τ', Kf [4] [] τ τ' ∧ TR B N (sk B N a) τ' ∧ den d m_R_here 0 [.ref 30] [] (mS b τ) = some (.inl (some (.int (pkR B N (sk B N a)))), mS b τ') := by
  intro f
  induction f with
  | zero =>
    intro a τ hf ha T
    have e : sk B N a = a := rn_0 (by omega)
    rw [e]
    refine ⟨τ, Kf.rf _ _ τ, T, ?_⟩
    rw [B_R_here_0]
    simp (disch := omega) only [m_gF, T.1, T.2.1, obs]
    rw [if_pos (by rw [ii_le (by omega) (by omega)]; omega), R_here38 hB hN d b ha T]
  | succ f ih =>
    intro a τ hf ha T
    have hb := hB a
    have h32 : (Int32.ofNat (B a) = 32) = (B a = 32) := ii_eq (b := 32) (by omega) (by omega)
    rw [B_R_here_0]
    simp (disch := omega) only [m_gF, T.1, T.2.1, obs]
    rw [if_neg (by rw [ii_le (by omega) (by omega)]; omega), (m_gI b τ).2.1 a (by omega), obs, T.2.2 a (by omega)]
    by_cases h : B a = 32
    · have e : sk B N a = sk B N (a + 1) := rn_y (by omega) (isBl_t.mpr h)
      rw [e]
      obtain ⟨s', k1, k2, k3⟩ := ih (a + 1) (wF τ 4 (Int32.ofNat (a + 1))) (by omega) (by omega) (TR_w T)
      refine ⟨s', ((Kf.rf _ _ τ).wF (by decide) _).tr k1, k2, ?_⟩
      rw [if_neg (by rw [h32]; exact fun g => g h)]
      simp only [m_pF, obs, ii_1]
      exact k3
    · have e : sk B N a = a := rn_n (by omega) (fun g => h (isBl_t.mp g))
      rw [e]
      refine ⟨τ, Kf.rf _ _ τ, T, ?_⟩
      rw [if_pos (by rw [h32]; exact h), R_here38 hB hN d b ha T]
theorem R_here {B : Nat → Nat} {N : Nat} (hB : ∀ i, B i < 256) (hN : N ≤ 600) (d : Nat) (b : pS) {τ : rT} {a : Nat} (ha : a ≤ N) (T : TR B N a τ) : ∃ τ', Kf [4] [] τ τ' ∧ TR B N (sk B N a) τ' ∧ vcall (d + 1) m_R_here [.ref 30] (mS b τ) = some (.inl (some (.int (pkR B N (sk B N a)))), mS b τ') := by
  obtain ⟨s', k1, k2, k3⟩ := R_hereL hB hN d b _ a τ rfl ha T
  exact ⟨s', k1, k2, (vR rfl).trans k3⟩
