/-! ROWS of a studio, read by both -/
/-- good at the same place, or the same fault -/
def rowK (B : Nat → Nat) (N a M mm : Nat) (H : pH) (L : xA) (r : rT) (m n q mx : Nat) (W : Int32 → Int32 → Prop) : Prop :=
  (∃ a' r' m' n' q', a' ≤ N ∧ a ≤ a' ∧ (∀ d s, TX B N a s → ∃ s', Kf [25, 26] [] s s' ∧ TX B N a' s' ∧ vcall (d + 4) mx [.ref M, .ref 1] (uQ M mm H L s r) = some (.inl (some (.int 1)), uQ M mm H L s' r')) ∧ (∀ d b τ w x, W w x → TR B N a τ → τ.1 5 = -1 → SR r τ m n q → ∃ τ', Kf [4, 17, 18, 19, 20, 21] [33, 34, 35, 36] τ τ' ∧ TR B N a' τ' ∧ SR r' τ' m' n' q' ∧ vcall (d + 4) m_R_readRow [.ref 30, .int w, .int x] (mS b τ) = some (.inl none, mS b τ'))) ∨ (∃ k p, k ≤ 3 ∧ p ≤ 600 ∧ (∀ d s, TX B N a s → ∃ s' r', Kf [22, 23, 25, 26] [] s s' ∧ FX s' k p ∧ vcall (d + 4) mx [.ref M, .ref 1] (uQ M mm H L s r) = some (.inl (some (.int 0)), uQ M mm H L s' r')) ∧ (∀ d b τ w x, W w x → TR B N a τ → τ.1 5 = -1 → SR r τ m n q → ∃ τ', Kf [4, 5, 6, 17, 18, 19, 20, 21] [33, 34, 35, 36] τ τ' ∧ FR τ' k p ∧ vcall (d + 4) m_R_readRow [.ref 30, .int w, .int x] (mS b τ) = some (.inl none, mS b τ')))
abbrev oSeat : Int32 := Int32.ofNat (hw (rl w_seat 0 4))
abbrev oSitter : Int32 := Int32.ofNat (hw (rl w_sitter 0 6))
abbrev oYear : Int32 := Int32.ofNat (hw (rl w_year 0 4))
abbrev oFood : Int32 := Int32.ofNat (hw (rl w_food 0 4))
theorem of_22 (d : Nat) (S : pS) : call (d + 1) m_R_of [.ref (pSB + 22)] S = some (.inl (some (.int oSeat)), S) := R_of d S HW_22 (by decide)
theorem of_23 (d : Nat) (S : pS) : call (d + 1) m_R_of [.ref (pSB + 23)] S = some (.inl (some (.int oSitter)), S) := R_of d S HW_23 (by decide)
theorem of_24 (d : Nat) (S : pS) : call (d + 1) m_R_of [.ref (pSB + 24)] S = some (.inl (some (.int oYear)), S) := R_of d S HW_24 (by decide)
theorem of_25 (d : Nat) (S : pS) : call (d + 1) m_R_of [.ref (pSB + 25)] S = some (.inl (some (.int oFood)), S) := R_of d S HW_25 (by decide)
theorem nv_b {B : Nat → Nat} {N : Nat} (hB : ∀ i, B i < 256) (hN : N ≤ 600) {a lo hi : Nat} (ha : a ≤ N) (hh : hi ≤ 9999) (h : Int32.ofNat lo ≤ Int32.ofNat (nv B N a) ∧ Int32.ofNat (nv B N a) ≤ Int32.ofNat hi) (hl : lo ≤ 9999) : lo ≤ nv B N a ∧ nv B N a ≤ hi := by
  have e := (nr_iff hB hN ha (lo := 0) (hi := 9999) (by decide)).1
  rw [ii_le (by omega) e, ii_le e (by omega)] at h
  exact h
theorem row_seat {B : Nat → Nat} {N : Nat} (hB : ∀ i, B i < 256) (hN : N ≤ 600) {a M mm : Nat} {H : pH} {L : xA} {r : rT} {m n q : Nat} (D : Dj L) (o : ∀ j, M ≤ j → Ot L j) (ha : a ≤ N) (hm : r.1 44 = Int32.ofNat m) (h8 : m < 8) : rowK B N a M mm H L r m n q m_Su_readSeat (fun w x => x = 0 ∧ w = oSeat) := by
  have hs := sk_le (B := B) ha
  rcases NUM hB hN ha (lo := 0) (hi := 9) (by decide) with ⟨n1, n2⟩ | ⟨k, p, hk, hp, hX, hR⟩
  · have bd := nv_b hB hN (lo := 0) (hi := 9) ha (by decide) n2 (by decide)
    refine Or.inl ⟨de B N (sk B N a), wF (wA r 11 m (Int32.ofNat (nv B N a))) 44 (Int32.ofNat (m + 1)), m + 1, n, q, rn_le hs, Nat.le_trans (sk_ge ha) (rn_ge hs), fun d s T => ?_, fun d b τ w x W T h5 R => ?_⟩
    · obtain ⟨s1, k1, k2, k3, k4⟩ := T_num_y hB hN d (b := aL M mm (suL M r) H) D ha T n1 n2.1 n2.2
      have k4' : vcall (d + 3) m_Tp_readNumber [.ref 1, .int 0, .int 9] (uQ M mm H L s r) = some (.inl (some (.int (Int32.ofNat (nv B N a)))), uQ M mm H L s1 r) := k4
      refine ⟨s1, k1, k2, (uQ_v o rfl).trans ((B_Su_readSeat_0 _ _ _ _).trans ?_)⟩
      have h44 : (wA r 11 m (Int32.ofNat (nv B N a))).1 44 = Int32.ofNat m := hm
      rw [k4', kC1_v, if_pos (by rw [ii_n1 (by omega)]; exact id), (uQ_g o).1, obs, (uQ_g o).2.2.2.2.1, obs, hm, (uQ_pI o _).1 h8, obs, (uQ_g o).2.2.2.2.1, obs, (uQ_pF o _).1, obs, h44, ii_1]
    · obtain ⟨⟨-, r2, r3⟩, R2, R3, R4, R5, R6, R7, R8, R9⟩ := R
      obtain ⟨t1, k1, k2, k3⟩ := R_num_y hB hN d b ha T h5 n1 (by decide) n2.1 n2.2
      have h17 : t1.1 17 = Int32.ofNat m := (k1.1 17 (by decide)).trans r2
      have h17' : (wA t1 33 m (Int32.ofNat (nv B N a))).1 17 = Int32.ofNat m := h17
      refine ⟨wF (wA t1 33 m (Int32.ofNat (nv B N a))) 17 (Int32.ofNat (m + 1)), ((k1.up (by decide) (by decide)).wA (by decide) _ _).wF (by decide) _, ⟨k2.1, k2.2.1, k2.2.2⟩, ?_, (vR rfl).trans ((B_R_readRow_0 _ _ _ _ _).trans ?_)⟩
      · have kk : Kf [17] [33] τ (wF (wA t1 33 m (Int32.ofNat (nv B N a))) 17 (Int32.ofNat (m + 1))) → True := fun _ => trivial
        refine ⟨⟨rfl, rfl, by omega⟩, ?_, ?_, ?_, ?_, fun t ht => ?_, fun t h1 h2 => ?_, ?_, ?_⟩
        · refine ⟨R2.1, (k1.1 18 (by decide)).trans R2.2.1, R2.2.2⟩
        · refine ⟨R3.1, (k1.1 19 (by decide)).trans R3.2.1, R3.2.2⟩
        · obtain ⟨y, y1, y2, y3, y4⟩ := R4; exact ⟨y, y1, y2, y3, (k1.1 20 (by decide)).trans y4⟩
        · obtain ⟨y, y1, y2, y3⟩ := R5; exact ⟨y, y1, y2, (k1.1 21 (by decide)).trans y3⟩
        · show ∃ j, j ≤ 9 ∧ upd (r.2 11) m (Int32.ofNat (nv B N a)) t = Int32.ofNat j ∧ upd (t1.2 33) m (Int32.ofNat (nv B N a)) t = Int32.ofNat j
          by_cases e : t = m
          · subst e; exact ⟨nv B N a, bd.2, upd_s _ _ _, upd_s _ _ _⟩
          · rw [upd_n _ _ e, upd_n _ _ e, k1.2 33 (by decide)]; exact R6 t (by omega)
        · show upd (r.2 11) m (Int32.ofNat (nv B N a)) t = 0
          rw [upd_n _ _ (by omega)]; exact R7 t (by omega) h2
        · show ∀ p, p < n → r.2 12 p = t1.2 34 p ∧ ∃ j, 1 ≤ j ∧ j ≤ 60 ∧ r.2 13 p = Int32.ofNat j ∧ t1.2 35 p = Int32.ofNat j
          rw [k1.2 34 (by decide), k1.2 35 (by decide)]; exact R8
        · show ∀ i, i < q → ∃ j, 1 ≤ j ∧ j ≤ 400 ∧ r.2 14 i = Int32.ofNat j ∧ t1.2 36 i = Int32.ofNat j
          rw [k1.2 36 (by decide)]; exact R9
      · obtain ⟨w1, w2⟩ := W
        subst w1 w2
        have g10 : gFr (mS b τ) 30 11 10 = some 33 := gFr_at mS_30 rfl
        have g17 : ∀ τ : rT, gFi (mS b τ) 30 11 17 = some (τ.1 17) := fun τ => gFi_at mS_30 rfl
        have k3' : vcall (d + 3) m_R_readNumber [.ref 30, .int 0, .int 9] (mS b τ) = some (.inl (some (.int (Int32.ofNat (nv B N a)))), mS b t1) := k3
        rw [if_pos rfl, of_22, kC1_v, if_neg (fun h => h rfl), g10, obs, g17, obs, k3', kC1_v, r2, m_pI0 (n := 8) (by decide) (by decide) rfl (by decide) m _ h8, obs, g17, obs]
        simp only [m_pF, obs, h17', ii_1]
  · refine Or.inr ⟨k, p, hk, hp, fun d s T => ?_, fun d b τ w x W T h5 R => ?_⟩
    · obtain ⟨s1, k1, k2, k3⟩ := hX d (aL M mm (suL M r) H) L s D T
      have k3' : vcall (d + 3) m_Tp_readNumber [.ref 1, .int 0, .int 9] (uQ M mm H L s r) = some (.inl (some (.int (-1))), uQ M mm H L s1 r) := k3
      refine ⟨s1, r, k1, k2, (uQ_v o rfl).trans ((B_Su_readSeat_0 _ _ _ _).trans ?_)⟩
      rw [k3', kC1_v, if_neg (by simp)]
    · obtain ⟨⟨-, r2, r3⟩, -⟩ := R
      obtain ⟨t1, k1, k2, k3⟩ := hR d b τ T h5
      have h17 : t1.1 17 = Int32.ofNat m := (k1.1 17 (by decide)).trans r2
      refine ⟨wF (wA t1 33 m 0) 17 (Int32.ofNat (m + 1)), ((k1.up (by decide) (by decide)).wA (by decide) _ _).wF (by decide) _, k2, (vR rfl).trans ((B_R_readRow_0 _ _ _ _ _).trans ?_)⟩
      obtain ⟨w1, w2⟩ := W
      subst w1 w2
      have g10 : gFr (mS b τ) 30 11 10 = some 33 := gFr_at mS_30 rfl
      have g17 : ∀ τ : rT, gFi (mS b τ) 30 11 17 = some (τ.1 17) := fun τ => gFi_at mS_30 rfl
      have k3' : vcall (d + 3) m_R_readNumber [.ref 30, .int 0, .int 9] (mS b τ) = some (.inl (some (.int 0)), mS b t1) := k3
      have h17' : (wA t1 33 m 0).1 17 = Int32.ofNat m := h17
      rw [if_pos rfl, of_22, kC1_v, if_neg (fun h => h rfl), g10, obs, g17, obs, k3', kC1_v, r2, m_pI0 (n := 8) (by decide) (by decide) rfl (by decide) m _ h8, obs, g17, obs]
      simp only [m_pF, obs, h17', ii_1]
