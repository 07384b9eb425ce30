/-! ROWS of a studio: sittings, years, food -/
theorem row_sitting {B : Nat → Nat} {N : Nat} (hB : ∀ i, B i < 256) (hN : N ≤ 600) {a M mm : Nat} {H : pH} {L : xA} {r : rT} {m n q : Nat} (D : Dj L) (o : ∀ j, M ≤ j → Ot L j) (ha : a ≤ N) (hm : r.1 46 = Int32.ofNat q) (h8 : q < 8) : rowK B N a M mm H L r m n q m_Su_readSitting (fun _ x => x = 1) := by
  have hs := sk_le (B := B) ha
  rcases NUM hB hN ha (lo := 1) (hi := 400) (by decide) with ⟨n1, n2⟩ | ⟨k, p, hk, hp, hX, hR⟩
  · have bd := nv_b hB hN (lo := 1) (hi := 400) ha (by decide) n2 (by decide)
    refine Or.inl ⟨de B N (sk B N a), wF (wA r 14 q (Int32.ofNat (nv B N a))) 46 (Int32.ofNat (q + 1)), m, n, q + 1, rn_le hs, Nat.le_trans (sk_ge ha) (rn_ge hs), fun d s T => ?_, fun d b τ w x W T h5 R => ?_⟩
    · obtain ⟨s1, k1, k2, k3, k4⟩ := T_num_y hB hN d (b := aL M mm (suL M r) H) D ha T n1 n2.1 n2.2
      have k4' : vcall (d + 3) m_Tp_readNumber [.ref 1, .int 1, .int 400] (uQ M mm H L s r) = some (.inl (some (.int (Int32.ofNat (nv B N a)))), uQ M mm H L s1 r) := k4
      refine ⟨s1, k1, k2, (uQ_v o rfl).trans ((B_Su_readSitting_0 _ _ _ _).trans ?_)⟩
      have h46 : (wA r 14 q (Int32.ofNat (nv B N a))).1 46 = Int32.ofNat q := hm
      rw [k4', kC1_v, if_pos (by rw [ii_n1 (by omega)]; exact id), (uQ_g o).2.2.2.1, obs, (uQ_g o).2.2.2.2.2.2.1, obs, hm, (uQ_pI o _).2.2.2 h8, obs, (uQ_g o).2.2.2.2.2.2.1, obs, (uQ_pF o _).2.2.1, obs, h46, ii_1]
    · obtain ⟨R1, R2, ⟨-, r2, r3⟩, R4, R5, R6, R7, R8, R9⟩ := R
      obtain ⟨t1, k1, k2, k3⟩ := R_num_y hB hN d b ha T h5 n1 (by decide) n2.1 n2.2
      have h19 : t1.1 19 = Int32.ofNat q := (k1.1 19 (by decide)).trans r2
      have h19' : (wA t1 36 q (Int32.ofNat (nv B N a))).1 19 = Int32.ofNat q := h19
      refine ⟨wF (wA t1 36 q (Int32.ofNat (nv B N a))) 19 (Int32.ofNat (q + 1)), ((k1.up (by decide) (by decide)).wA (by decide) _ _).wF (by decide) _, ⟨k2.1, k2.2.1, k2.2.2⟩, ?_, (vR rfl).trans ((B_R_readRow_0 _ _ _ _ _).trans ?_)⟩
      · refine ⟨?_, ?_, ⟨rfl, rfl, by omega⟩, ?_, ?_, ?_, R7, ?_, fun t ht => ?_⟩
        · refine ⟨R1.1, (k1.1 17 (by decide)).trans R1.2.1, R1.2.2⟩
        · refine ⟨R2.1, (k1.1 18 (by decide)).trans R2.2.1, R2.2.2⟩
        · obtain ⟨y, y1, y2, y3, y4⟩ := R4; exact ⟨y, y1, y2, y3, (k1.1 20 (by decide)).trans y4⟩
        · obtain ⟨y, y1, y2, y3⟩ := R5; exact ⟨y, y1, y2, (k1.1 21 (by decide)).trans y3⟩
        · show ∀ t, t < m → ∃ j, j ≤ 9 ∧ r.2 11 t = Int32.ofNat j ∧ t1.2 33 t = Int32.ofNat j
          rw [k1.2 33 (by decide)]; exact R6
        · show ∀ p, p < n → r.2 12 p = t1.2 34 p ∧ ∃ j, 1 ≤ j ∧ j ≤ 60 ∧ r.2 13 p = Int32.ofNat j ∧ t1.2 35 p = Int32.ofNat j
          rw [k1.2 34 (by decide), k1.2 35 (by decide)]; exact R8
        · show ∃ j, 1 ≤ j ∧ j ≤ 400 ∧ upd (r.2 14) q (Int32.ofNat (nv B N a)) t = Int32.ofNat j ∧ upd (t1.2 36) q (Int32.ofNat (nv B N a)) t = Int32.ofNat j
          by_cases e : t = q
          · subst e; exact ⟨nv B N a, bd.1, bd.2, upd_s _ _ _, upd_s _ _ _⟩
          · rw [upd_n _ _ e, upd_n _ _ e, k1.2 36 (by decide)]; exact R9 t (by omega)
      · have W : x = 1 := W
        subst W
        have g13 : gFr (mS b τ) 30 11 13 = some 36 := gFr_at mS_30 rfl
        have g19 : ∀ τ : rT, gFi (mS b τ) 30 11 19 = some (τ.1 19) := fun τ => gFi_at mS_30 rfl
        have k3' : vcall (d + 3) m_R_readNumber [.ref 30, .int 1, .int 400] (mS b τ) = some (.inl (some (.int (Int32.ofNat (nv B N a)))), mS b t1) := k3
        rw [if_neg (by decide), g13, obs, g19, obs, k3', kC1_v, r2, m_pI0 (n := 8) (by decide) (by decide) rfl (by decide) q _ h8, obs, g19, obs]
        simp only [m_pF, obs, h19', ii_1]
  · refine Or.inr ⟨k, p, hk, hp, fun d s T => ?_, fun d b τ w x W T h5 R => ?_⟩
    · obtain ⟨s1, k1, k2, k3⟩ := hX d (aL M mm (suL M r) H) L s D T
      have k3' : vcall (d + 3) m_Tp_readNumber [.ref 1, .int 1, .int 400] (uQ M mm H L s r) = some (.inl (some (.int (-1))), uQ M mm H L s1 r) := k3
      refine ⟨s1, r, k1, k2, (uQ_v o rfl).trans ((B_Su_readSitting_0 _ _ _ _).trans ?_)⟩
      rw [k3', kC1_v, if_neg (by simp)]
    · obtain ⟨-, -, ⟨-, r2, r3⟩, -⟩ := R
      obtain ⟨t1, k1, k2, k3⟩ := hR d b τ T h5
      have h19 : t1.1 19 = Int32.ofNat q := (k1.1 19 (by decide)).trans r2
      refine ⟨wF (wA t1 36 q 0) 19 (Int32.ofNat (q + 1)), ((k1.up (by decide) (by decide)).wA (by decide) _ _).wF (by decide) _, k2, (vR rfl).trans ((B_R_readRow_0 _ _ _ _ _).trans ?_)⟩
      have W : x = 1 := W
      subst W
      have g13 : gFr (mS b τ) 30 11 13 = some 36 := gFr_at mS_30 rfl
      have g19 : ∀ τ : rT, gFi (mS b τ) 30 11 19 = some (τ.1 19) := fun τ => gFi_at mS_30 rfl
      have k3' : vcall (d + 3) m_R_readNumber [.ref 30, .int 1, .int 400] (mS b τ) = some (.inl (some (.int 0)), mS b t1) := k3
      have h19' : (wA t1 36 q 0).1 19 = Int32.ofNat q := h19
      rw [if_neg (by decide), g13, obs, g19, obs, k3', kC1_v, r2, m_pI0 (n := 8) (by decide) (by decide) rfl (by decide) q _ h8, obs, g19, obs]
      simp only [m_pF, obs, h19', ii_1]
theorem row_year {B : Nat → Nat} {N : Nat} (hB : ∀ i, B i < 256) (hN : N ≤ 600) {a M mm : Nat} {H : pH} {L : xA} {r : rT} {m n q : Nat} (D : Dj L) (o : ∀ j, M ≤ j → Ot L j) (ha : a ≤ N) : rowK B N a M mm H L r m n q m_Su_readYear (fun w x => x = 0 ∧ w ≠ oSeat ∧ w ≠ oSitter ∧ w = oYear) := by
  have hs := sk_le (B := B) ha
  have rr : ∀ (d : Nat) (b : pS) (τ t1 : rT) (w x v : Int32), (x = 0 ∧ w ≠ oSeat ∧ w ≠ oSitter ∧ w = oYear) → vcall (d + 3) m_R_readNumber [.ref 30, .int 1, .int 400] (mS b τ) = some (.inl (some (.int v)), mS b t1) → vcall (d + 4) m_R_readRow [.ref 30, .int w, .int x] (mS b τ) = some (.inl none, mS b (wF t1 20 v)) := fun d b τ t1 w x v W e => by
    obtain ⟨w1, w2, w3, w4⟩ := W
    subst w1 w4
    refine (vR rfl).trans ((B_R_readRow_0 _ _ _ _ _).trans ?_)
    rw [if_pos rfl, of_22, kC1_v, if_pos w2, of_23, kC1_v, if_pos w3, of_24, kC1_v, if_neg (fun h => h rfl), e, kC1_v]
    simp only [m_pF, obs]
  rcases NUM hB hN ha (lo := 1) (hi := 400) (by decide) with ⟨n1, n2⟩ | ⟨k, p, hk, hp, hX, hR⟩
  · have bd := nv_b hB hN (lo := 1) (hi := 400) ha (by decide) n2 (by decide)
    refine Or.inl ⟨de B N (sk B N a), wF r 47 (Int32.ofNat (nv B N a)), m, n, q, rn_le hs, Nat.le_trans (sk_ge ha) (rn_ge hs), fun d s T => ?_, fun d b τ w x W T h5 R => ?_⟩
    · obtain ⟨s1, k1, k2, k3, k4⟩ := T_num_y hB hN d (b := aL M mm (suL M r) H) D ha T n1 n2.1 n2.2
      have k4' : vcall (d + 3) m_Tp_readNumber [.ref 1, .int 1, .int 400] (uQ M mm H L s r) = some (.inl (some (.int (Int32.ofNat (nv B N a)))), uQ M mm H L s1 r) := k4
      refine ⟨s1, k1, k2, (uQ_v o rfl).trans ((B_Su_readYear_0 _ _ _ _).trans ?_)⟩
      have h47 : (wF r 47 (Int32.ofNat (nv B N a))).1 47 = Int32.ofNat (nv B N a) := rfl
      rw [k4', kC1_v, (uQ_pF o _).2.2.2.1, obs, (uQ_g o).2.2.2.2.2.2.2.1, obs, h47, if_neg (by rw [ii_n1 (by omega)]; exact id)]
    · obtain ⟨R1, R2, R3, R4, R5, R6, R7, R8, R9⟩ := R
      obtain ⟨t1, k1, k2, k3⟩ := R_num_y hB hN d b ha T h5 n1 (by decide) n2.1 n2.2
      refine ⟨wF t1 20 (Int32.ofNat (nv B N a)), (k1.up (by decide) (by decide)).wF (by decide) _, ⟨k2.1, k2.2.1, k2.2.2⟩, ?_, rr d b τ t1 w x _ W k3⟩
      have S0 : SR r t1 m n q := SR_k ⟨R1, R2, R3, R4, R5, R6, R7, R8, R9⟩ k1
      obtain ⟨R1, R2, R3, R4, R5, R6, R7, R8, R9⟩ := S0
      exact ⟨R1, R2, R3, ⟨nv B N a, bd.1, bd.2, rfl, rfl⟩, R5, R6, R7, R8, R9⟩
  · refine Or.inr ⟨k, p, hk, hp, fun d s T => ?_, fun d b τ w x W T h5 R => ?_⟩
    · obtain ⟨s1, k1, k2, k3⟩ := hX d (aL M mm (suL M r) H) L s D T
      have k3' : vcall (d + 3) m_Tp_readNumber [.ref 1, .int 1, .int 400] (uQ M mm H L s r) = some (.inl (some (.int (-1))), uQ M mm H L s1 r) := k3
      refine ⟨s1, wF r 47 (-1), k1, k2, (uQ_v o rfl).trans ((B_Su_readYear_0 _ _ _ _).trans ?_)⟩
      have h47 : (wF r 47 (-1)).1 47 = -1 := rfl
      rw [k3', kC1_v, (uQ_pF o _).2.2.2.1, obs, (uQ_g o).2.2.2.2.2.2.2.1, obs, h47, if_pos rfl]
    · obtain ⟨t1, k1, k2, k3⟩ := hR d b τ T h5
      exact ⟨wF t1 20 0, (k1.up (by decide) (by decide)).wF (by decide) _, k2, rr d b τ t1 w x _ W k3⟩
theorem row_food {B : Nat → Nat} {N : Nat} (hB : ∀ i, B i < 256) (hN : N ≤ 600) {a M mm : Nat} {H : pH} {L : xA} {r : rT} {m n q : Nat} (D : Dj L) (o : ∀ j, M ≤ j → Ot L j) (ha : a ≤ N) : rowK B N a M mm H L r m n q m_Su_readFood (fun w x => x = 0 ∧ w ≠ oSeat ∧ w ≠ oSitter ∧ w ≠ oYear) := by
  have hs := sk_le (B := B) ha
  have rr : ∀ (d : Nat) (b : pS) (τ t1 : rT) (w x v : Int32), (x = 0 ∧ w ≠ oSeat ∧ w ≠ oSitter ∧ w ≠ oYear) → vcall (d + 3) m_R_readNumber [.ref 30, .int 0, .int 99] (mS b τ) = some (.inl (some (.int v)), mS b t1) → vcall (d + 4) m_R_readRow [.ref 30, .int w, .int x] (mS b τ) = some (.inl none, mS b (wF t1 21 v)) := fun d b τ t1 w x v W e => by
    obtain ⟨w1, w2, w3, w4⟩ := W
    subst w1
    refine (vR rfl).trans ((B_R_readRow_0 _ _ _ _ _).trans ?_)
    rw [if_pos rfl, of_22, kC1_v, if_pos w2, of_23, kC1_v, if_pos w3, of_24, kC1_v, if_pos w4, e, kC1_v]
    simp only [m_pF, obs]
  rcases NUM hB hN ha (lo := 0) (hi := 99) (by decide) with ⟨n1, n2⟩ | ⟨k, p, hk, hp, hX, hR⟩
  · have bd := nv_b hB hN (lo := 0) (hi := 99) ha (by decide) n2 (by decide)
    refine Or.inl ⟨de B N (sk B N a), wF r 48 (Int32.ofNat (nv B N a)), m, n, q, rn_le hs, Nat.le_trans (sk_ge ha) (rn_ge hs), fun d s T => ?_, fun d b τ w x W T h5 R => ?_⟩
    · obtain ⟨s1, k1, k2, k3, k4⟩ := T_num_y hB hN d (b := aL M mm (suL M r) H) D ha T n1 n2.1 n2.2
      have k4' : vcall (d + 3) m_Tp_readNumber [.ref 1, .int 0, .int 99] (uQ M mm H L s r) = some (.inl (some (.int (Int32.ofNat (nv B N a)))), uQ M mm H L s1 r) := k4
      refine ⟨s1, k1, k2, (uQ_v o rfl).trans ((B_Su_readFood_0 _ _ _ _).trans ?_)⟩
      have h47 : (wF r 48 (Int32.ofNat (nv B N a))).1 48 = Int32.ofNat (nv B N a) := rfl
      rw [k4', kC1_v, (uQ_pF o _).2.2.2.2, obs, (uQ_g o).2.2.2.2.2.2.2.2, obs, h47, if_neg (by rw [ii_n1 (by omega)]; exact id)]
    · obtain ⟨R1, R2, R3, R4, R5, R6, R7, R8, R9⟩ := R
      obtain ⟨t1, k1, k2, k3⟩ := R_num_y hB hN d b ha T h5 n1 (by decide) n2.1 n2.2
      refine ⟨wF t1 21 (Int32.ofNat (nv B N a)), (k1.up (by decide) (by decide)).wF (by decide) _, ⟨k2.1, k2.2.1, k2.2.2⟩, ?_, rr d b τ t1 w x _ W k3⟩
      have S0 : SR r t1 m n q := SR_k ⟨R1, R2, R3, R4, R5, R6, R7, R8, R9⟩ k1
      obtain ⟨R1, R2, R3, R4, R5, R6, R7, R8, R9⟩ := S0
      exact ⟨R1, R2, R3, R4, ⟨nv B N a, bd.2, rfl, rfl⟩, R6, R7, R8, R9⟩
  · refine Or.inr ⟨k, p, hk, hp, fun d s T => ?_, fun d b τ w x W T h5 R => ?_⟩
    · obtain ⟨s1, k1, k2, k3⟩ := hX d (aL M mm (suL M r) H) L s D T
      have k3' : vcall (d + 3) m_Tp_readNumber [.ref 1, .int 0, .int 99] (uQ M mm H L s r) = some (.inl (some (.int (-1))), uQ M mm H L s1 r) := k3
      refine ⟨s1, wF r 48 (-1), k1, k2, (uQ_v o rfl).trans ((B_Su_readFood_0 _ _ _ _).trans ?_)⟩
      have h47 : (wF r 48 (-1)).1 48 = -1 := rfl
      rw [k3', kC1_v, (uQ_pF o _).2.2.2.2, obs, (uQ_g o).2.2.2.2.2.2.2.2, obs, h47, if_pos rfl]
    · obtain ⟨t1, k1, k2, k3⟩ := hR d b τ T h5
      exact ⟨wF t1 21 0, (k1.up (by decide) (by decide)).wF (by decide) _, k2, rr d b τ t1 w x _ W k3⟩
