/-! A CLAUSE of a studio, by both: on to the next one, or the same fault -/
/-- one clause: good, up to a', or a fault -/
def clG (B : Nat → Nat) (N a M mm : Nat) (H : pH) (L : xA) (r : rT) (m n q c a' : Nat) (r' : rT) (m' n' q' : Nat) : Prop := (∀ d s, TX B N a s → ∃ s', Kf [25, 26] [] s s' ∧ TX B N a' s' ∧ den (d + 5) m_Su_read 2 [.ref M, .ref 1, .int (Int32.ofNat c)] [] (uQ M mm H L s r) = den (d + 5) m_Su_read 2 [.ref M, .ref 1, .int (Int32.ofNat (c + 1))] [] (uQ M mm H L s' r')) ∧ (∀ (d : Nat) (b : pS) (τ : rT) (l1 : Int32) (l3 l4 : Value), TR B N a τ → τ.1 5 = -1 → SR r τ m n q → ∃ τ' l3' l4', Kf [4, 17, 18, 19, 20, 21] [33, 34, 35, 36] τ τ' ∧ TR B N a' τ' ∧ SR r' τ' m' n' q' ∧ den (d + 4) m_R_studio 44 [.ref 30, .int l1, .int (Int32.ofNat c), l3, l4] [] (mS b τ) = den (d + 4) m_R_studio 44 [.ref 30, .int l1, .int (Int32.ofNat (c + 1)), l3', l4'] [] (mS b τ'))
def clW (B : Nat → Nat) (N a M mm : Nat) (H : pH) (L : xA) (r : rT) (m n q c k p : Nat) : Prop := (∀ d s, TX B N a s → ∃ s' r', Kf [22, 23, 25, 26] [] s s' ∧ FX s' k p ∧ den (d + 5) m_Su_read 2 [.ref M, .ref 1, .int (Int32.ofNat c)] [] (uQ M mm H L s r) = some (.inl (some (.int 0)), uQ M mm H L s' r')) ∧ (∀ (d : Nat) (b : pS) (τ : rT) (l1 : Int32) (l3 l4 : Value), TR B N a τ → τ.1 5 = -1 → SR r τ m n q → ∃ τ' c' l3' l4', Kf [4, 5, 6, 17, 18, 19, 20, 21] [33, 34, 35, 36] τ τ' ∧ FR τ' k p ∧ den (d + 4) m_R_studio 44 [.ref 30, .int l1, .int (Int32.ofNat c), l3, l4] [] (mS b τ) = den (d + 4) m_R_studio 153 [.ref 30, .int l1, .int c', l3', l4'] [] (mS b τ'))
theorem X_st_go {B : Nat → Nat} {N : Nat} (hB : ∀ i, B i < 256) (hN : N ≤ 600) (d : Nat) {M mm : Nat} {H : pH} {L : xA} {s r : rT} (D : Dj L) {a c : Nat} (hc : c ≤ 60) (ha : a ≤ N) (T : TX B N a s) (hg : sk B N a < N) : ∃ s1, Kf [25] [] s s1 ∧ TX B N (sk B N a) s1 ∧ den (d + 5) m_Su_read 2 [.ref M, .ref 1, .int (Int32.ofNat c)] [] (uQ M mm H L s r) = kC1 (vcall (d + 5) m_Tp_readWord [.ref 1] (uQ M mm H L s1 r)) (fun v4 s3 => (if (v4 : Int32) = 0 then some (.inl (some (.int 0)), s3) else kC1 (vcall (d + 5) m_Su_readClause [.ref M, .ref 1, .int (Int32.ofNat c)] s3) (fun v6 s5 => (if (v6 : Int32) = 0 then some (.inl (some (.int 0)), s5) else kC1 (vcall (d + 5) m_Tp_sign [.ref 1, .int 59] s5) (fun v8 s7 => (if ¬ (v8 : Int32) = 0 then den (d + 5) m_Su_read 2 [.ref M, .ref 1, .int (Int32.ofNat (c + 1))] [] s7 else some (.inl (some (.int 0)), s7))) xp)) xp)) xp := by
  obtain ⟨s1, k1, k2, k3⟩ := T_peek hB hN (d + 3) (b := aL M mm (suL M r) H) D ha T
  have k3' : vcall (d + 5) m_Tp_peek [.ref 1] (uQ M mm H L s r) = some (.inl (some (.int (pkX B N (sk B N a)))), uQ M mm H L s1 r) := k3
  have hb := hB (sk B N a)
  refine ⟨s1, k1, k2, ?_⟩
  rw [B_Su_read_2, if_neg (by show ¬ (Int32.ofNat 60 < Int32.ofNat c); rw [ii_lt (by omega) (by omega)]; omega), k3', kC1_v, ii_1, if_pos (by unfold pkX; rw [if_pos hg, ii_n1 (by omega)]; exact id)]
theorem ST_step {B : Nat → Nat} {N : Nat} (hB : ∀ i, B i < 256) (hN : N ≤ 600) {M mm : Nat} {H : pH} {L : xA} {r : rT} {m n q mx : Nat} {W : Int32 → Int32 → Prop} (D : Dj L) {a c : Nat} (hc : c ≤ 60) (hc6 : c < 60) (ha : a ≤ N) (hg : sk B N a < N) (hw : sk B N a < we B N (sk B N a)) (hXc : ∀ d s, TX B N (we B N (sk B N a)) s → s.1 26 = Int32.ofNat (sk B N a) → vcall (d + 5) m_Su_readClause [.ref M, .ref 1, .int (Int32.ofNat c)] (uQ M mm H L s r) = kC1 (vcall (d + 4) mx [.ref M, .ref 1] (uQ M mm H L s r)) (fun v s' => if (v : Int32) = 0 then some (.inl (some (.int 0)), s') else some (.inl (some (.int 1)), s')) xp) (hRc : ∀ (d : Nat) (b : pS) (τ : rT) (l1 : Int32) (l3 l4 : Value), TR B N a τ → τ.1 5 = -1 → SR r τ m n q → ∃ (t3 : rT) (x v : Int32), Kf [4] [] τ t3 ∧ TR B N (sk B N a) t3 ∧ W v x ∧ den (d + 4) m_R_studio 44 [.ref 30, .int l1, .int (Int32.ofNat c), l3, l4] [] (mS b τ) = den (d + 4) m_R_studio 120 [.ref 30, .int l1, .int (Int32.ofNat c), .int x, .int v] [] (mS b t3)) (hrow : rowK B N (we B N (sk B N a)) M mm H L r m n q mx W) : (∃ a' r' m' n' q', c < 60 ∧ a' ≤ N ∧ a < a' ∧ clG B N a M mm H L r m n q c a' r' m' n' q') ∨ (∃ k p, k ≤ 3 ∧ p ≤ 600 ∧ clW B N a M mm H L r m n q c k p) := by
  have hs := sk_le (B := B) ha
  have hsg := sk_ge (B := B) ha
  have he : we B N (sk B N a) ≤ N := rn_le hs
  have hX1 : ∀ d s, TX B N a s → ∃ s2, Kf [25, 26] [] s s2 ∧ TX B N (we B N (sk B N a)) s2 ∧ den (d + 5) m_Su_read 2 [.ref M, .ref 1, .int (Int32.ofNat c)] [] (uQ M mm H L s r) = kC1 (kC1 (vcall (d + 4) mx [.ref M, .ref 1] (uQ M mm H L s2 r)) (fun v s' => if (v : Int32) = 0 then some (.inl (some (.int 0)), s') else some (.inl (some (.int 1)), s')) xp) (fun v6 s5 => (if (v6 : Int32) = 0 then some (.inl (some (.int 0)), s5) else kC1 (vcall (d + 5) m_Tp_sign [.ref 1, .int 59] s5) (fun v8 s7 => (if ¬ (v8 : Int32) = 0 then den (d + 5) m_Su_read 2 [.ref M, .ref 1, .int (Int32.ofNat (c + 1))] [] s7 else some (.inl (some (.int 0)), s7))) xp)) xp := fun d s T => by
    obtain ⟨s1, k1, k2, k3⟩ := X_st_go hB hN d (M := M) (mm := mm) (H := H) (r := r) (c := c) D hc ha T hg
    obtain ⟨s2, j1, j2, j3, j4⟩ := T_word_y hB hN (d + 2) (b := aL M mm (suL M r) H) D hs k2 (by rw [sk_sk ha]; exact hw)
    rw [sk_sk ha] at j2 j3
    have j4' : vcall (d + 5) m_Tp_readWord [.ref 1] (uQ M mm H L s1 r) = some (.inl (some (.int 1)), uQ M mm H L s2 r) := j4
    refine ⟨s2, (k1.up (by decide) (by decide)).tr j1, j2, ?_⟩
    rw [k3, j4', kC1_v, if_neg (by decide), hXc d s2 j2 j3]
  have hR1 : ∀ (d : Nat) (b : pS) (τ : rT) (l1 : Int32) (l3 l4 : Value), TR B N a τ → τ.1 5 = -1 → SR r τ m n q → ∃ (t4 : rT) (x v : Int32), Kf [4] [] τ t4 ∧ TR B N (we B N (sk B N a)) t4 ∧ W v x ∧ den (d + 4) m_R_studio 44 [.ref 30, .int l1, .int (Int32.ofNat c), l3, l4] [] (mS b τ) = kC0 (vcall (d + 4) m_R_readRow [.ref 30, .int v, .int x] (mS b t4)) (fun s4 => kC0 (vcall (d + 4) m_R_sign [.ref 30, .int 59] s4) (fun s5 => den (d + 4) m_R_studio 44 [.ref 30, .int l1, .int (Int32.ofNat (c + 1)), .int x, .int v] [] s5) xp) xp := fun d b τ l1 l3 l4 T h5 R => by
    obtain ⟨t3, x, v, k1, k2, k3, k4⟩ := hRc d b τ l1 l3 l4 T h5 R
    obtain ⟨t4, j1, j2, j3⟩ := R_pass hB hN (d + 2) b hs k2
    refine ⟨t4, x, v, k1.tr j1, j2, k3, k4.trans ?_⟩
    rw [B_R_studio_120, R_fine1 (d + 3) b ((k1.1 5 (by decide)).trans h5), kC1_v, if_pos (by decide), j3, kC0_v, ii_1]
  rcases hrow with ⟨a', r', m', n', q', z1, z2, zX, zR⟩ | ⟨k, p, hk, hp, zX, zR⟩
  · rcases SGN hB hN z1 (c := 59) (by decide) (by decide) with hsg2 | ⟨k, p, hk, hp, hX, hR⟩
    · have := sk_ge (B := B) z1
      refine Or.inl ⟨sk B N a' + 1, r', m', n', q', hc6, hsg2.1, by omega, fun d s T => ?_, fun d b τ l1 l3 l4 T h5 R => ?_⟩
      · obtain ⟨s2, k1, k2, k3⟩ := hX1 d s T
        obtain ⟨s3, j1, j2, j3⟩ := zX d s2 k2
        obtain ⟨s4, i1, i2, i3⟩ := T_sign_y hB hN (d + 2) (b := aL M mm (suL M r') H) D z1 j2 (by decide) hsg2
        have i3' : vcall (d + 5) m_Tp_sign [.ref 1, .int 59] (uQ M mm H L s3 r') = some (.inl (some (.int 1)), uQ M mm H L s4 r') := i3
        refine ⟨s4, (k1.tr j1).tr (i1.up (by decide) (by decide)), i2, ?_⟩
        rw [k3, j3, kC1_v, if_neg (by decide), kC1_v, if_neg (by decide), i3', kC1_v, if_pos (by decide)]
      · obtain ⟨t4, x, v, k1, k2, k3, k4⟩ := hR1 d b τ l1 l3 l4 T h5 R
        have h5' : t4.1 5 = -1 := (k1.1 5 (by decide)).trans h5
        obtain ⟨t5, j1, j2, j3, j4⟩ := zR d b t4 v x k3 k2 h5' (SR_k R k1)
        obtain ⟨t6, i1, i2, i3⟩ := R_sign_y hB hN (d + 2) b z1 j2 ((j1.1 5 (by decide)).trans h5') (by decide) (by decide) hsg2
        have i3' : vcall (d + 4) m_R_sign [.ref 30, .int 59] (mS b t5) = some (.inl none, mS b t6) := i3
        refine ⟨t6, .int x, .int v, ((k1.up (by decide) (by decide)).tr j1).tr (i1.up (by decide) (by decide)), i2, SR_k j3 i1, ?_⟩
        rw [k4, j4, kC0_v, i3', kC0_v]
    · refine Or.inr ⟨k, p, hk, hp, fun d s T => ?_, fun d b τ l1 l3 l4 T h5 R => ?_⟩
      · obtain ⟨s2, k1, k2, k3⟩ := hX1 d s T
        obtain ⟨s3, j1, j2, j3⟩ := zX d s2 k2
        obtain ⟨s4, i1, i2, i3⟩ := hX (d + 2) (aL M mm (suL M r') H) L s3 D j2
        have i3' : vcall (d + 5) m_Tp_sign [.ref 1, .int 59] (uQ M mm H L s3 r') = some (.inl (some (.int 0)), uQ M mm H L s4 r') := i3
        refine ⟨s4, r', ((k1.tr j1).up (by decide) (by decide)).tr (i1.up (by decide) (by decide)), i2, ?_⟩
        rw [k3, j3, kC1_v, if_neg (by decide), kC1_v, if_neg (by decide), i3', kC1_v, if_neg (by decide)]
      · obtain ⟨t4, x, v, k1, k2, k3, k4⟩ := hR1 d b τ l1 l3 l4 T h5 R
        have h5' : t4.1 5 = -1 := (k1.1 5 (by decide)).trans h5
        obtain ⟨t5, j1, j2, j3, j4⟩ := zR d b t4 v x k3 k2 h5' (SR_k R k1)
        obtain ⟨t6, i1, i2, i3⟩ := hR (d + 2) b t5 j2 ((j1.1 5 (by decide)).trans h5')
        have i3' : vcall (d + 4) m_R_sign [.ref 30, .int 59] (mS b t5) = some (.inl none, mS b t6) := i3
        refine ⟨t6, Int32.ofNat (c + 1), .int x, .int v, ((k1.up (by decide) (by decide)).tr (j1.up (by decide) (by decide))).tr (i1.up (by decide) (by decide)), i2, ?_⟩
        rw [k4, j4, kC0_v, i3', kC0_v, B_R_studio_44, R_fine0 (d + 3) b (FR_b i2 hp), kC1_v, if_pos rfl]
  · refine Or.inr ⟨k, p, hk, hp, fun d s T => ?_, fun d b τ l1 l3 l4 T h5 R => ?_⟩
    · obtain ⟨s2, k1, k2, k3⟩ := hX1 d s T
      obtain ⟨s3, r', j1, j2, j3⟩ := zX d s2 k2
      refine ⟨s3, r', (k1.up (by decide) (by decide)).tr j1, j2, ?_⟩
      rw [k3, j3, kC1_v, if_pos rfl, kC1_v, if_pos rfl]
    · obtain ⟨t4, x, v, k1, k2, k3, k4⟩ := hR1 d b τ l1 l3 l4 T h5 R
      have h5' : t4.1 5 = -1 := (k1.1 5 (by decide)).trans h5
      obtain ⟨t5, j1, j2, j3⟩ := zR d b t4 v x k3 k2 h5' (SR_k R k1)
      have hb := FR_b j2 hp
      refine ⟨t5, Int32.ofNat (c + 1), .int x, .int v, (k1.up (by decide) (by decide)).tr j1, j2, ?_⟩
      rw [k4, j3, kC0_v, R_sign_b (d + 2) b hb, kC0_v, B_R_studio_44, R_fine0 (d + 3) b hb, kC1_v, if_pos rfl]
