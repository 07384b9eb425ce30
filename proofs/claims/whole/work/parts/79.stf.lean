/-! A CLAUSE of a studio: no room, no such word -/
theorem ST_full {B : Nat → Nat} {N : Nat} (hB : ∀ i, B i < 256) (hN : N ≤ 600) {M mm : Nat} {H : pH} {L : xA} {r : rT} {m n q : Nat} (κ : Nat) (D : Dj L) {a c : Nat} (hc : c ≤ 60) (ha : a ≤ N) (hg : sk B N a < N) (hw : sk B N a < we B N (sk B N a)) (hXf : ∀ d s, TX B N (we B N (sk B N a)) s → s.1 26 = Int32.ofNat (sk B N a) → vcall (d + 5) m_Su_readClause [.ref M, .ref 1, .int (Int32.ofNat c)] (uQ M mm H L s r) = some (.inl (some (.int 0)), uQ M mm H L (wF (wF s 23 (Int32.ofNat κ)) 22 (s.1 26)) r)) (hRf : ∀ (d : Nat) (b : pS) (τ : rT) (l1 : Int32) (l3 l4 : Value), TR B N a τ → τ.1 5 = -1 → SR r τ m n q → ∃ (t3 : rT) (l3' l4' : Value), Kf [4] [] τ t3 ∧ den (d + 4) m_R_studio 44 [.ref 30, .int l1, .int (Int32.ofNat c), l3, l4] [] (mS b τ) = den (d + 4) m_R_studio 153 [.ref 30, .int l1, .int (Int32.ofNat c), l3', l4'] [] (mS b (wF (wF t3 5 (Int32.ofNat (sk B N a))) 6 (Int32.ofNat κ)))) : clW B N a M mm H L r m n q c κ (sk B N a) := by
  have hs := sk_le (B := B) ha
  refine ⟨fun d s T => ?_, fun d b τ l1 l3 l4 T h5 R => ?_⟩
  · obtain ⟨s1, k1, k2, k3⟩ := X_st_go hB hN d (M := M) (mm := mm) (H := H) (r := r) (c := c) D hc ha T hg
    obtain ⟨s2, j1, j2, j3, j4⟩ := T_word_y hB hN (d + 2) (b := aL M mm (suL M r) H) D hs k2 (by rw [sk_sk ha]; exact hw)
    rw [sk_sk ha] at j2 j3
    have j4' : vcall (d + 5) m_Tp_readWord [.ref 1] (uQ M mm H L s1 r) = some (.inl (some (.int 1)), uQ M mm H L s2 r) := j4
    refine ⟨wF (wF s2 23 (Int32.ofNat κ)) 22 (s2.1 26), r, (((k1.up (by decide) (by decide)).tr (j1.up (by decide) (by decide))).wF (by decide) _).wF (by decide) _, ⟨rfl, j3⟩, ?_⟩
    rw [k3, j4', kC1_v, if_neg (by decide), hXf d s2 j2 j3, kC1_v, if_pos rfl]
  · obtain ⟨t3, l3', l4', k1, k2⟩ := hRf d b τ l1 l3 l4 T h5 R
    exact ⟨wF (wF t3 5 (Int32.ofNat (sk B N a))) 6 (Int32.ofNat κ), Int32.ofNat c, l3', l4', ((k1.up (by decide) (by decide)).wF (by decide) _).wF (by decide) _, ⟨rfl, rfl⟩, k2⟩
theorem R_cl_none {B : Nat → Nat} {N : Nat} (hB : ∀ i, B i < 256) (hN : N ≤ 600) (d : Nat) (b : pS) {τ : rT} {a : Nat} (ha : a ≤ N) (T : TR B N a τ) (h5 : τ.1 5 = -1) (hg : sk B N a < N) (l1 l2 : Int32) (l3 l4 : Value) (h0 : ¬ wq B (sk B N a) (we B N (sk B N a) - sk B N a) w_seat 4) (h1 : ¬ wq B (sk B N a) (we B N (sk B N a) - sk B N a) w_sitter 6) (h2 : ¬ wq B (sk B N a) (we B N (sk B N a) - sk B N a) w_sitting 7) (h3 : ¬ wq B (sk B N a) (we B N (sk B N a) - sk B N a) w_year 4) (h4 : ¬ wq B (sk B N a) (we B N (sk B N a) - sk B N a) w_food 4) : ∃ (t3 : rT) (l3' l4' : Value), Kf [4] [] τ t3 ∧ den (d + 4) m_R_studio 44 [.ref 30, .int l1, .int l2, l3, l4] [] (mS b τ) = den (d + 4) m_R_studio 153 [.ref 30, .int l1, .int l2, l3', l4'] [] (mS b (wF (wF t3 5 (Int32.ofNat (sk B N a))) 6 (Int32.ofNat 1))) := by
  have hs := sk_le (B := B) ha
  obtain ⟨t3, x, k1, k2, k3, k4, k5⟩ := R_cl_go hB hN d b ha T h5 hg l1 l2 l3 l4
  have hx := k4 h2
  subst hx
  have h5' : t3.1 5 = -1 := (k1.1 5 (by decide)).trans h5
  have hb : (wF (wF t3 5 (Int32.ofNat (sk B N a))) 6 1).1 5 ≠ -1 := FR_b (k := 1) (p := sk B N a) ⟨rfl, rfl⟩ (by omega)
  have ns := (R_short (d + 2) (mS b t3) (Int32.ofNat (wv B (sk B N a) (we B N (sk B N a) - sk B N a)))).2 (by
    rintro (g | g | g | g)
    · exact h0 ((word_eq hB hN hs HW_22 (by decide) (by decide)) ▸ g)
    · exact h1 ((word_eq hB hN hs HW_23 (by decide) (by decide)) ▸ g)
    · exact h3 ((word_eq hB hN hs HW_24 (by decide) (by decide)) ▸ g)
    · exact h4 ((word_eq hB hN hs HW_25 (by decide) (by decide)) ▸ g))
  refine ⟨t3, .int 0, .int (Int32.ofNat (wv B (sk B N a) (we B N (sk B N a) - sk B N a))), k1, k5.trans ?_⟩
  rw [if_neg (fun h => h rfl), ns, kC1_v, if_neg (by decide)]
  simp only [m_gF, obs, k2.2.1]
  rw [R_wrong (d + 3) b h5', kC0_v, B_R_studio_120, R_fine0 (d + 3) b hb, kC1_v, if_neg (by decide)]
  rfl
