/-! ROWS of a studio: sitters -/
theorem row_sitter {B : Nat → Nat} {N : Nat} (hB : ∀ i, B i < 256) (hN : N ≤ 600) {a M mm : Nat} {H : pH} {L : xA} {r : rT} {m n q : Nat} (D : Dj L) (o : ∀ j, M ≤ j → Ot L j) (ha : a ≤ N) (hm : r.1 45 = Int32.ofNat n) (h6 : n < 6) : rowK B N a M mm H L r m n q m_Su_readSitter (fun w x => x = 0 ∧ w ≠ oSeat ∧ w = oSitter) := by
  have hs := sk_le (B := B) ha
  have rr : ∀ (d : Nat) (b : pS) (τ t1 t2 : rT) (w x v v2 : Int32), (x = 0 ∧ w ≠ oSeat ∧ w = oSitter) → τ.1 18 = Int32.ofNat n → t1.1 18 = Int32.ofNat n → t2.1 18 = Int32.ofNat n → vcall (d + 3) m_R_readNumber [.ref 30, .int 1, .int 9] (mS b τ) = some (.inl (some (.int v)), mS b t1) → vcall (d + 3) m_R_readNumber [.ref 30, .int 1, .int 60] (mS b (wA t1 34 n v)) = some (.inl (some (.int v2)), mS b t2) → vcall (d + 4) m_R_readRow [.ref 30, .int w, .int x] (mS b τ) = some (.inl none, mS b (wF (wA t2 35 n v2) 18 (Int32.ofNat (n + 1)))) := fun d b τ t1 t2 w x v v2 W i0 i1 i2 e e2 => by
    obtain ⟨w1, w2, w3⟩ := W
    subst w1 w3
    refine (vR rfl).trans ((B_R_readRow_0 _ _ _ _ _).trans ?_)
    have g11 : ∀ τ : rT, gFr (mS b τ) 30 11 11 = some 34 := fun τ => gFr_at mS_30 rfl
    have g12 : ∀ τ : rT, gFr (mS b τ) 30 11 12 = some 35 := fun τ => gFr_at mS_30 rfl
    have g18 : ∀ τ : rT, gFi (mS b τ) 30 11 18 = some (τ.1 18) := fun τ => gFi_at mS_30 rfl
    have i1' : (wA t1 34 n v).1 18 = Int32.ofNat n := i1
    have i2' : (wA t2 35 n v2).1 18 = Int32.ofNat n := i2
    rw [if_pos rfl, of_22, kC1_v, if_pos w2, of_23, kC1_v, if_neg (fun h => h rfl), g11, obs, g18, obs, e, kC1_v, i0, m_pI0 (n := 6) (by decide) (by decide) rfl (by decide) n _ h6, obs, g12, obs, g18, obs, i1', e2, kC1_v, m_pI0 (n := 6) (by decide) (by decide) rfl (by decide) n _ h6, obs, g18, obs, i2', ii_1]
    simp only [m_pF, obs]
  rcases NUM hB hN ha (lo := 1) (hi := 9) (by decide) with ⟨n1, n2⟩ | ⟨k, p, hk, hp, hX, hR⟩
  · have ha2 : de B N (sk B N a) ≤ N := rn_le hs
    have bd := nv_b hB hN (lo := 1) (hi := 9) ha (by decide) n2 (by decide)
    rcases NUM hB hN ha2 (lo := 1) (hi := 60) (by decide) with ⟨u1, u2⟩ | ⟨k, p, hk, hp, hX, hR⟩
    · have bd2 := nv_b hB hN (lo := 1) (hi := 60) ha2 (by decide) u2 (by decide)
      have hs2 := sk_le (B := B) ha2
      refine Or.inl ⟨de B N (sk B N (de B N (sk B N a))), wF (wA (wA r 12 n (Int32.ofNat (nv B N a))) 13 n (Int32.ofNat (nv B N (de B N (sk B N a))))) 45 (Int32.ofNat (n + 1)), m, n + 1, q, rn_le hs2, Nat.le_trans (Nat.le_trans (sk_ge ha) (rn_ge hs)) (Nat.le_trans (sk_ge ha2) (rn_ge hs2)), fun d s T => ?_, fun d b τ w x W T h5 R => ?_⟩
      · obtain ⟨s1, k1, k2, k3, k4⟩ := T_num_y hB hN d (b := aL M mm (suL M r) H) D ha T n1 n2.1 n2.2
        obtain ⟨s2, j1, j2, j3, j4⟩ := T_num_y hB hN d (b := aL M mm (suL M r) H) D ha2 k2 u1 u2.1 u2.2
        have k4' : vcall (d + 3) m_Tp_readNumber [.ref 1, .int 1, .int 9] (uQ M mm H L s r) = some (.inl (some (.int (Int32.ofNat (nv B N a)))), uQ M mm H L s1 r) := k4
        have j4' : vcall (d + 3) m_Tp_readNumber [.ref 1, .int 1, .int 60] (uQ M mm H L s1 r) = some (.inl (some (.int (Int32.ofNat (nv B N (de B N (sk B N a)))))), uQ M mm H L s2 r) := j4
        refine ⟨s2, k1.tr j1, j2, (uQ_v o rfl).trans ((B_Su_readSitter_0 _ _ _ _).trans ?_)⟩
        have h45 : (wA r 12 n (Int32.ofNat (nv B N a))).1 45 = Int32.ofNat n := hm
        have h45' : (wA (wA r 12 n (Int32.ofNat (nv B N a))) 13 n (Int32.ofNat (nv B N (de B N (sk B N a))))).1 45 = Int32.ofNat n := hm
        rw [k4', kC1_v, if_pos (by rw [ii_n1 (by omega)]; exact id), j4', kC1_v, if_pos (by rw [ii_n1 (by omega)]; exact id), (uQ_g o).2.1, obs, (uQ_g o).2.2.2.2.2.1, obs, hm, (uQ_pI o _).2.1 h6, obs, (uQ_g o).2.2.1, obs, (uQ_g o).2.2.2.2.2.1, obs, h45, (uQ_pI o _).2.2.1 h6, obs, (uQ_g o).2.2.2.2.2.1, obs, (uQ_pF o _).2.1, obs, h45', ii_1]
      · obtain ⟨R1, ⟨-, r2, r3⟩, R3, R4, R5, R6, R7, R8, R9⟩ := R
        obtain ⟨t1, k1, k2, k3⟩ := R_num_y hB hN d b ha T h5 n1 (by decide) n2.1 n2.2
        have i1 : t1.1 18 = Int32.ofNat n := (k1.1 18 (by decide)).trans r2
        obtain ⟨t2, j1, j2, j3⟩ := R_num_y hB hN d b (τ := wA t1 34 n (Int32.ofNat (nv B N a))) ha2 ⟨k2.1, k2.2.1, k2.2.2⟩ ((k1.1 5 (by decide)).trans h5) u1 (by decide) u2.1 u2.2
        have i2 : t2.1 18 = Int32.ofNat n := (j1.1 18 (by decide)).trans i1
        refine ⟨wF (wA t2 35 n (Int32.ofNat (nv B N (de B N (sk B N a))))) 18 (Int32.ofNat (n + 1)), (((((k1.up (by decide) (by decide)).wA (by decide) _ _).tr (j1.up (by decide) (by decide)))).wA (by decide) _ _).wF (by decide) _, ⟨j2.1, j2.2.1, j2.2.2⟩, ?_, rr d b τ t1 t2 w x _ _ W r2 i1 i2 k3 j3⟩
        refine ⟨?_, ⟨rfl, rfl, by omega⟩, ?_, ?_, ?_, ?_, R7, fun p hp => ?_, ?_⟩
        · exact ⟨R1.1, ((j1.1 17 (by decide)).trans (k1.1 17 (by decide))).trans R1.2.1, R1.2.2⟩
        · exact ⟨R3.1, ((j1.1 19 (by decide)).trans (k1.1 19 (by decide))).trans R3.2.1, R3.2.2⟩
        · obtain ⟨y, y1, y2, y3, y4⟩ := R4; exact ⟨y, y1, y2, y3, ((j1.1 20 (by decide)).trans (k1.1 20 (by decide))).trans y4⟩
        · obtain ⟨y, y1, y2, y3⟩ := R5; exact ⟨y, y1, y2, ((j1.1 21 (by decide)).trans (k1.1 21 (by decide))).trans y3⟩
        · have e : t2.2 33 = τ.2 33 := (j1.2 33 (by decide)).trans (k1.2 33 (by decide))
          show ∀ t, t < m → ∃ j, j ≤ 9 ∧ r.2 11 t = Int32.ofNat j ∧ t2.2 33 t = Int32.ofNat j
          rw [e]; exact R6
        · have e34 : t2.2 34 = upd (t1.2 34) n (Int32.ofNat (nv B N a)) := j1.2 34 (by decide)
          have e35 : t2.2 35 = t1.2 35 := j1.2 35 (by decide)
          show upd (r.2 12) n (Int32.ofNat (nv B N a)) p = t2.2 34 p ∧ ∃ j, 1 ≤ j ∧ j ≤ 60 ∧ upd (r.2 13) n (Int32.ofNat (nv B N (de B N (sk B N a)))) p = Int32.ofNat j ∧ upd (t2.2 35) n (Int32.ofNat (nv B N (de B N (sk B N a)))) p = Int32.ofNat j
          rw [e34, e35]
          by_cases e : p = n
          · subst e; rw [upd_s, upd_s, upd_s, upd_s]; exact ⟨rfl, _, bd2.1, bd2.2, rfl, rfl⟩
          · rw [upd_n _ _ e, upd_n _ _ e, upd_n _ _ e, upd_n _ _ e, k1.2 34 (by decide), k1.2 35 (by decide)]; exact R8 p (by omega)
        · have e : t2.2 36 = τ.2 36 := (j1.2 36 (by decide)).trans (k1.2 36 (by decide))
          show ∀ i, i < q → ∃ j, 1 ≤ j ∧ j ≤ 400 ∧ r.2 14 i = Int32.ofNat j ∧ t2.2 36 i = Int32.ofNat j
          rw [e]; exact R9
    · refine Or.inr ⟨k, p, hk, hp, fun d s T => ?_, fun d b τ w x W T h5 R => ?_⟩
      · obtain ⟨s1, k1, k2, k3, k4⟩ := T_num_y hB hN d (b := aL M mm (suL M r) H) D ha T n1 n2.1 n2.2
        obtain ⟨s2, j1, j2, j3⟩ := hX d (aL M mm (suL M r) H) L s1 D k2
        have k4' : vcall (d + 3) m_Tp_readNumber [.ref 1, .int 1, .int 9] (uQ M mm H L s r) = some (.inl (some (.int (Int32.ofNat (nv B N a)))), uQ M mm H L s1 r) := k4
        have j3' : vcall (d + 3) m_Tp_readNumber [.ref 1, .int 1, .int 60] (uQ M mm H L s1 r) = some (.inl (some (.int (-1))), uQ M mm H L s2 r) := j3
        refine ⟨s2, r, (k1.up (by decide) (by decide)).tr j1, j2, (uQ_v o rfl).trans ((B_Su_readSitter_0 _ _ _ _).trans ?_)⟩
        rw [k4', kC1_v, if_pos (by rw [ii_n1 (by omega)]; exact id), j3', kC1_v, if_neg (by simp)]
      · obtain ⟨-, ⟨-, r2, r3⟩, -⟩ := R
        obtain ⟨t1, k1, k2, k3⟩ := R_num_y hB hN d b ha T h5 n1 (by decide) n2.1 n2.2
        have i1 : t1.1 18 = Int32.ofNat n := (k1.1 18 (by decide)).trans r2
        obtain ⟨t2, j1, j2, j3⟩ := hR d b (wA t1 34 n (Int32.ofNat (nv B N a))) ⟨k2.1, k2.2.1, k2.2.2⟩ ((k1.1 5 (by decide)).trans h5)
        have i2 : t2.1 18 = Int32.ofNat n := (j1.1 18 (by decide)).trans i1
        exact ⟨wF (wA t2 35 n 0) 18 (Int32.ofNat (n + 1)), (((((k1.up (by decide) (by decide)).wA (by decide) _ _).tr (j1.up (by decide) (by decide)))).wA (by decide) _ _).wF (by decide) _, j2, rr d b τ t1 t2 w x _ _ W r2 i1 i2 k3 j3⟩
  · refine Or.inr ⟨k, p, hk, hp, fun d s T => ?_, fun d b τ w x W T h5 R => ?_⟩
    · obtain ⟨s1, k1, k2, k3⟩ := hX d (aL M mm (suL M r) H) L s D T
      have k3' : vcall (d + 3) m_Tp_readNumber [.ref 1, .int 1, .int 9] (uQ M mm H L s r) = some (.inl (some (.int (-1))), uQ M mm H L s1 r) := k3
      refine ⟨s1, r, k1, k2, (uQ_v o rfl).trans ((B_Su_readSitter_0 _ _ _ _).trans ?_)⟩
      rw [k3', kC1_v, if_neg (by simp)]
    · obtain ⟨-, ⟨-, r2, r3⟩, -⟩ := R
      obtain ⟨t1, k1, k2, k3⟩ := hR d b τ T h5
      have i1 : t1.1 18 = Int32.ofNat n := (k1.1 18 (by decide)).trans r2
      have hb : (wA t1 34 n 0).1 5 ≠ -1 := FR_b k2 hp
      exact ⟨wF (wA (wA t1 34 n 0) 35 n 0) 18 (Int32.ofNat (n + 1)), (((k1.up (by decide) (by decide)).wA (by decide) _ _).wA (by decide) _ _).wF (by decide) _, k2, rr d b τ t1 (wA t1 34 n 0) w x _ _ W r2 i1 i1 k3 (R_num_b (d + 1) b hb _ _)⟩
