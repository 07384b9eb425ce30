/-! A STUDIO, read by both -/
theorem CLAUSE {B : Nat → Nat} {N : Nat} (hB : ∀ i, B i < 256) (hN : N ≤ 600) {M mm : Nat} {H : pH} {L : xA} {r : rT} {m n q : Nat} (D : Dj L) (o : ∀ j, M ≤ j → Ot L j) {a c : Nat} (hc : c ≤ 60) (ha : a ≤ N) (hg : sk B N a < N) (hm : r.1 44 = Int32.ofNat m ∧ m ≤ 8) (hn : r.1 45 = Int32.ofNat n ∧ n ≤ 6) (hq : r.1 46 = Int32.ofNat q ∧ q ≤ 8) : (∃ a' r' m' n' q', c < 60 ∧ a' ≤ N ∧ a < a' ∧ clG B N a M mm H L r m n q c a' r' m' n' q') ∨ (∃ k p, k ≤ 3 ∧ p ≤ 600 ∧ clW B N a M mm H L r m n q c k p) := by
  have hs := sk_le (B := B) ha
  have he : we B N (sk B N a) ≤ N := rn_le hs
  have hge : sk B N a ≤ we B N (sk B N a) := rn_ge hs
  by_cases hw : sk B N a < we B N (sk B N a)
  · by_cases h0 : wq B (sk B N a) (we B N (sk B N a) - sk B N a) w_seat 4
    · exact CL_seat hB hN D o hc ha hg hm hn hq hw h0
    by_cases h1 : wq B (sk B N a) (we B N (sk B N a) - sk B N a) w_sitter 6
    · exact CL_sitter hB hN D o hc ha hg hm hn hq hw h1
    by_cases h2 : wq B (sk B N a) (we B N (sk B N a) - sk B N a) w_sitting 7
    · exact CL_sitting hB hN D o hc ha hg hm hn hq hw h2
    by_cases h3 : wq B (sk B N a) (we B N (sk B N a) - sk B N a) w_year 4
    · exact CL_year hB hN D o hc ha hg hm hn hq hw h3
    by_cases h4 : wq B (sk B N a) (we B N (sk B N a) - sk B N a) w_food 4
    · exact CL_food hB hN D o hc ha hg hm hn hq hw h4
    exact Or.inr ⟨1, sk B N a, by decide, by omega, ST_full hB hN 1 D hc ha hg hw (fun d s T hst => X_cl_none hB hN d (M := M) (mm := mm) (H := H) (r := r) D o hc T hst he (by omega) h0 h1 h2 h3 h4) (fun d b τ l1 l3 l4 T h5 R => R_cl_none hB hN d b ha T h5 hg l1 (Int32.ofNat c) l3 l4 h0 h1 h2 h3 h4)⟩
  · have nw : ∀ (w : Nat → Nat) (len : Nat), 0 < len → ¬ wq B (sk B N a) (we B N (sk B N a) - sk B N a) w len := fun w len hl h => by have := h.1; omega
    refine Or.inr ⟨1, sk B N a, by decide, by omega, fun d s T => ?_, fun d b τ l1 l3 l4 T h5 R => ?_⟩
    · obtain ⟨s1, k1, k2, k3⟩ := X_st_go hB hN d (M := M) (mm := mm) (H := H) (r := r) (c := c) D hc ha T hg
      obtain ⟨s2, j1, j2, j3⟩ := T_word_n hB hN (d + 2) (b := aL M mm (suL M r) H) D hs k2 (by rw [sk_sk ha]; exact hw)
      rw [sk_sk ha] at j2
      have j3' : vcall (d + 5) m_Tp_readWord [.ref 1] (uQ M mm H L s1 r) = some (.inl (some (.int 0)), uQ M mm H L s2 r) := j3
      refine ⟨s2, r, (k1.up (by decide) (by decide)).tr j1, j2, ?_⟩
      rw [k3, j3', kC1_v, if_pos rfl]
    · obtain ⟨t3, l3', l4', k1, k2⟩ := R_cl_none hB hN d b ha T h5 hg l1 (Int32.ofNat c) l3 l4 (nw _ _ (by decide)) (nw _ _ (by decide)) (nw _ _ (by decide)) (nw _ _ (by decide)) (nw _ _ (by decide))
      exact ⟨wF (wF t3 5 (Int32.ofNat (sk B N a))) 6 (Int32.ofNat 1), Int32.ofNat c, l3', l4', ((k1.up (by decide) (by decide)).wF (by decide) _).wF (by decide) _, ⟨rfl, rfl⟩, k2⟩
/-- all of it: good, or a fault -/
def stG (B : Nat → Nat) (N a M mm : Nat) (H : pH) (L : xA) (r : rT) (m n q c : Nat) (r' : rT) (m' n' q' : Nat) : Prop := (∀ d s, TX B N a s → ∃ s', Kf [25, 26] [] s s' ∧ den (d + 5) m_Su_read 2 [.ref M, .ref 1, .int (Int32.ofNat c)] [] (uQ M mm H L s r) = some (.inl (some (.int 1)), uQ M mm H L s' r')) ∧ (∀ (d : Nat) (b : pS) (τ : rT) (l1 : Int32) (l3 l4 : Value), TR B N a τ → τ.1 5 = -1 → SR r τ m n q → ∃ τ' c' l3' l4', Kf [4, 17, 18, 19, 20, 21] [33, 34, 35, 36] τ τ' ∧ SR r' τ' m' n' q' ∧ den (d + 4) m_R_studio 44 [.ref 30, .int l1, .int (Int32.ofNat c), l3, l4] [] (mS b τ) = den (d + 4) m_R_studio 153 [.ref 30, .int l1, .int c', l3', l4'] [] (mS b τ'))
theorem STUDIO {B : Nat → Nat} {N : Nat} (hB : ∀ i, B i < 256) (hN : N ≤ 600) {M mm : Nat} {H : pH} {L : xA} (D : Dj L) (o : ∀ j, M ≤ j → Ot L j) : ∀ (f c a : Nat) (r : rT) (m n q : Nat), N - a = f → c ≤ 60 → a ≤ N → (∃ τ, TR B N a τ ∧ τ.1 5 = -1 ∧ SR r τ m n q) → (∃ r' m' n' q', stG B N a M mm H L r m n q c r' m' n' q') ∨ (∃ k p, k ≤ 3 ∧ p ≤ 600 ∧ clW B N a M mm H L r m n q c k p) := by
  intro f
  induction f using Nat.strongRecOn with
  | _ f ih =>
    intro c a r m n q hf hc ha wit
    obtain ⟨τ0, T0, h50, R0⟩ := wit
    by_cases hg : sk B N a < N
    · rcases CLAUSE hB hN (M := M) (mm := mm) (H := H) (c := c) D o hc ha hg ⟨R0.1.1, R0.1.2.2⟩ ⟨R0.2.1.1, R0.2.1.2.2⟩ ⟨R0.2.2.1.1, R0.2.2.1.2.2⟩ with ⟨a', r', m', n', q', z0, z1, z2, zX, zR⟩ | e
      · obtain ⟨τ1, l3, l4, w1, w2, w3, -⟩ := zR 0 (0, 0, fun _ => none) τ0 0 .null .null T0 h50 R0
        rcases ih (N - a') (by omega) (c + 1) a' r' m' n' q' rfl (by omega) z1 ⟨τ1, w2, (w1.1 5 (by decide)).trans h50, w3⟩ with ⟨r2, m2, n2, q2, yX, yR⟩ | ⟨k, p, hk, hp, yX, yR⟩
        · refine Or.inl ⟨r2, m2, n2, q2, fun d s T => ?_, fun d b τ l1 l3 l4 T h5 R => ?_⟩
          · obtain ⟨s1, k1, k2, k3⟩ := zX d s T
            obtain ⟨s2, j1, j2⟩ := yX d s1 k2
            exact ⟨s2, k1.tr j1, k3.trans j2⟩
          · obtain ⟨t1, l3', l4', k1, k2, k3, k4⟩ := zR d b τ l1 l3 l4 T h5 R
            obtain ⟨t2, c', l3'', l4'', j1, j2, j3⟩ := yR d b t1 l1 l3' l4' k2 ((k1.1 5 (by decide)).trans h5) k3
            exact ⟨t2, c', l3'', l4'', k1.tr j1, j2, k4.trans j3⟩
        · refine Or.inr ⟨k, p, hk, hp, fun d s T => ?_, fun d b τ l1 l3 l4 T h5 R => ?_⟩
          · obtain ⟨s1, k1, k2, k3⟩ := zX d s T
            obtain ⟨s2, r2, j1, j2, j3⟩ := yX d s1 k2
            exact ⟨s2, r2, (k1.up (by decide) (by decide)).tr j1, j2, k3.trans j3⟩
          · obtain ⟨t1, l3', l4', k1, k2, k3, k4⟩ := zR d b τ l1 l3 l4 T h5 R
            obtain ⟨t2, c', l3'', l4'', j1, j2, j3⟩ := yR d b t1 l1 l3' l4' k2 ((k1.1 5 (by decide)).trans h5) k3
            exact ⟨t2, c', l3'', l4'', (k1.up (by decide) (by decide)).tr j1, j2, k4.trans j3⟩
      · exact Or.inr e
    · refine Or.inl ⟨r, m, n, q, fun d s T => ?_, fun d b τ l1 l3 l4 T h5 R => ?_⟩
      · obtain ⟨s1, k1, k2, k3⟩ := T_peek hB hN (d + 3) (b := aL M mm (suL M r) H) D ha T
        have k3' : vcall (d + 5) m_Tp_peek [.ref 1] (uQ M mm H L s r) = some (.inl (some (.int (pkX B N (sk B N a)))), uQ M mm H L s1 r) := k3
        refine ⟨s1, k1.up (by decide) (by decide), ?_⟩
        rw [B_Su_read_2, if_neg (by show ¬ (Int32.ofNat 60 < Int32.ofNat c); rw [ii_lt (by omega) (by omega)]; omega), k3', kC1_v, if_neg (by unfold pkX; rw [if_neg hg]; simp)]
      · obtain ⟨t1, k1, k2, k3⟩ := R_isMore hB hN (d + 2) b ha T
        refine ⟨t1, Int32.ofNat c, l3, l4, k1.up (by decide) (by decide), SR_k R k1, ?_⟩
        rw [B_R_studio_44, R_fine1 (d + 3) b h5, kC1_v, if_neg (by decide), k3, kC1_v, if_neg hg, if_pos rfl]
