/-! THE BOOK: both readings end alike -/
def bkS (B : Nat → Nat) (N a d M mm : Nat) (H : pH) (L : xA) (m i kb : Nat) (am : Nat → Int32) (i' kb' : Nat) (am' : Nat → Int32) : Prop := ∀ s, TX B N a s → ∃ s', Kf [25, 26] [] s s' ∧ den (d + 4) m_Bk_read 2 [.ref M, .ref 1, .int (Int32.ofNat m), .int (Int32.ofNat i)] [] (bQ M mm H L s (Int32.ofNat kb) (Int32.ofNat i) am) = some (.inl (some (.int 1)), bQ M mm H L s' (Int32.ofNat kb') (Int32.ofNat i') am')
def bkF (B : Nat → Nat) (N a d M mm : Nat) (H : pH) (L : xA) (m i kb : Nat) (am : Nat → Int32) (k p : Nat) : Prop := ∀ s, TX B N a s → ∃ s' x y am', Kf [22, 23, 25, 26] [] s s' ∧ FX s' k p ∧ den (d + 4) m_Bk_read 2 [.ref M, .ref 1, .int (Int32.ofNat m), .int (Int32.ofNat i)] [] (bQ M mm H L s (Int32.ofNat kb) (Int32.ofNat i) am) = some (.inl (some (.int 0)), bQ M mm H L s' x y am')
def bkG (B : Nat → Nat) (N a m i : Nat) (bo : Nat → Int32) (i' : Nat) (bo' : Nat → Int32) : Prop := ∀ (d : Nat) (b : pS) (τ : rT) (l1 : Int32) (l3 l4 l5 : Value), TR B N a τ → τ.1 5 = -1 → τ.1 22 = Int32.ofNat m → τ.2 52 = bo → ∃ τ' l3' l4' l5', Kf [4] [52] τ τ' ∧ τ'.2 52 = bo' ∧ den (d + 3) m_R_book 67 [.ref 30, .int l1, .int (Int32.ofNat i), l3, l4, l5] [] (mS b τ) = den (d + 3) m_R_book 188 [.ref 30, .int l1, .int (Int32.ofNat i'), l3', l4', l5'] [] (mS b τ')
def bkH (B : Nat → Nat) (N a m i : Nat) (bo : Nat → Int32) (k p : Nat) : Prop := ∀ (d : Nat) (b : pS) (τ : rT) (l1 : Int32) (l3 l4 l5 : Value), TR B N a τ → τ.1 5 = -1 → τ.1 22 = Int32.ofNat m → τ.2 52 = bo → ∃ τ' i' l3' l4' l5', Kf [4, 5, 6] [52] τ τ' ∧ FR τ' k p ∧ den (d + 3) m_R_book 67 [.ref 30, .int l1, .int (Int32.ofNat i), l3, l4, l5] [] (mS b τ) = den (d + 3) m_R_book 188 [.ref 30, .int l1, .int i', l3', l4', l5'] [] (mS b τ')
theorem X_bk_go {B : Nat → Nat} {N : Nat} (hB : ∀ i, B i < 256) (hN : N ≤ 600) (d : Nat) {M mm : Nat} {H : pH} {L : xA} {s : rT} {x y : Int32} {am : Nat → Int32} (D : Dj L) {a i m : Nat} (hi : i ≤ 8) (ha : a ≤ N) (T : TX B N a s) : ∃ s1, Kf [25] [] s s1 ∧ TX B N (sk B N a) s1 ∧ den (d + 4) m_Bk_read 2 [.ref M, .ref 1, .int (Int32.ofNat m), .int (Int32.ofNat i)] [] (bQ M mm H L s x y am) = if sk B N a < N then kC1 (vcall (d + 4) m_Bk_readLine [.ref M, .ref 1, .int (Int32.ofNat m)] (bQ M mm H L s1 x y am)) (fun v4 s3 => (if (v4 : Int32) = 0 then some (.inl (some (.int 0)), s3) else kC1 (vcall (d + 4) m_Tp_sign [.ref 1, .int 59] s3) (fun v6 s5 => (if ¬ (v6 : Int32) = 0 then den (d + 4) m_Bk_read 2 [.ref M, .ref 1, .int (Int32.ofNat m), .int (Int32.ofNat (i + 1))] [] s5 else some (.inl (some (.int 0)), s5))) xp)) xp else some (.inl (some (.int 1)), bQ M mm H L s1 x y am) := by
  obtain ⟨s1, k1, k2, k3⟩ := T_peek hB hN (d + 2) (b := aL M mm [cO 0 [.ref (M + 1), .int x, .int y], cI 8 (cut 8 am)] H) D ha T
  refine ⟨s1, k1, k2, ?_⟩
  have k3' : vcall (d + 4) m_Tp_peek [.ref 1] (bQ M mm H L s x y am) = some (.inl (some (.int (pkX B N (sk B N a)))), bQ M mm H L s1 x y am) := k3
  rw [B_Bk_read_2, if_neg (by show ¬ (Int32.ofNat 8 < Int32.ofNat i); rw [ii_lt (by omega) (by omega)]; omega), k3', kC1_v, ii_1]
  unfold pkX
  by_cases g : sk B N a < N
  · have := hB (sk B N a)
    rw [if_pos g, if_pos g, if_pos (by rw [ii_n1 (by omega)]; exact id)]
  · rw [if_neg g, if_neg g, if_neg (by simp)]
theorem R_bk_go {B : Nat → Nat} {N : Nat} (hB : ∀ i, B i < 256) (hN : N ≤ 600) (d : Nat) (b : pS) {τ : rT} {a m : Nat} (ha : a ≤ N) (T : TR B N a τ) (h5 : τ.1 5 = -1) (h22 : τ.1 22 = Int32.ofNat m) (hg : sk B N a < N) (l1 l2 : Int32) (l3 l4 l5 : Value) : ∃ τ1, Kf [4] [] τ τ1 ∧ TR B N (sk B N a) τ1 ∧ den (d + 3) m_R_book 67 [.ref 30, .int l1, .int l2, l3, l4, l5] [] (mS b τ) = kC1 (vcall (d + 3) m_R_readNumber [.ref 30, .int 0, .int (Int32.ofNat m - 1)] (mS b τ1)) (fun v10 s9 => kC1 (vcall (d + 3) m_R_fine [.ref 30] s9) (fun v12 s11 => (if (v12 : Int32) = 0 then den (d + 3) m_R_book 128 [.ref 30, .int l1, .int l2, .int (Int32.ofNat (sk B N a)), .int v10, l5] [] s11 else ((gFr s11 30 11 46).bind fun v13 => ((gI s11 v13 v10).bind fun v14 => (if (v14 : Int32) = (-1) then den (d + 3) m_R_book 128 [.ref 30, .int l1, .int l2, .int (Int32.ofNat (sk B N a)), .int v10, l5] [] s11 else kC0 (vcall (d + 3) m_R_wrong [.ref 30, .int 2, .int (Int32.ofNat (sk B N a))] s11) (fun s15 => den (d + 3) m_R_book 128 [.ref 30, .int l1, .int l2, .int (Int32.ofNat (sk B N a)), .int v10, l5] [] s15) xp))))) xp) xp := by
  have hs := sk_le (B := B) ha
  obtain ⟨t1, k1, k2, k3⟩ := R_isMore hB hN (d + 1) b ha T
  obtain ⟨t2, j1, j2, j3⟩ := R_here hB hN (d + 2) b hs k2
  rw [sk_sk ha] at j2 j3
  have h22' : t2.1 22 = Int32.ofNat m := ((j1.1 22 (by decide)).trans (k1.1 22 (by decide))).trans h22
  refine ⟨t2, k1.tr j1, j2, ?_⟩
  rw [B_R_book_67, R_fine1 (d + 2) b h5, kC1_v, if_neg (by decide), k3, kC1_v, if_pos hg, if_neg (by decide), j3, kC1_v]
  simp only [m_gF, obs, j2.2.1, h22']
theorem BOOK {B : Nat → Nat} {N : Nat} (hB : ∀ i, B i < 256) (hN : N ≤ 600) (d : Nat) {M mm : Nat} {H : pH} {L : xA} (D : Dj L) (o : ∀ j, M ≤ j → Ot L j) {m : Nat} (h8 : m ≤ 8) : ∀ (f i a kb : Nat) (am bo : Nat → Int32), i + f = 8 → a ≤ N → kb < 256 → (∀ t, t < 8 → bkR (Int32.ofNat kb) (am t) (bo t) t) → (∃ i' kb' am' bo', i' ≤ 8 ∧ kb' < 256 ∧ (∀ t, t < 8 → bkR (Int32.ofNat kb') (am' t) (bo' t) t) ∧ bkS B N a d M mm H L m i kb am i' kb' am' ∧ bkG B N a m i bo i' bo') ∨ (∃ k p, k ≤ 3 ∧ p ≤ 600 ∧ bkF B N a d M mm H L m i kb am k p ∧ bkH B N a m i bo k p) := by
  intro f
  induction f using Nat.strongRecOn with
  | _ f ih =>
    intro i a kb am bo hif ha hkb hbk
    have hs := sk_le (B := B) ha
    by_cases hg : sk B N a < N
    · -- a line
      rcases NUM hB hN hs (lo := 0) (hi := Int32.ofNat m - 1) (m_1 h8) with ⟨n1, n2⟩ | ⟨k, p, hk, hp, hX, hR⟩
      · have hv := nv_lt hB hN hs h8 n2
        have v8 : nv B N (sk B N a) < 8 := by omega
        have ess : sk B N (sk B N a) = sk B N a := sk_sk ha
        have a2 : de B N (sk B N (sk B N a)) ≤ N := by rw [ess]; exact rn_le hs
        rcases hbk _ v8 with ⟨b1, b2, b3⟩ | ⟨w0, b0, b1, b2, b3⟩
        · have nb : ¬ (Int32.ofNat kb >>> (Int32.ofNat (nv B N (sk B N a)) &&& 31)) &&& 1 = 1 := by rw [b3]; decide
          by_cases hi8 : i = 8
          · refine Or.inr ⟨3, sk B N a, by decide, by omega, fun s T => ?_, fun d b τ l1 l3 l4 l5 T h5 h22 hbo => ?_⟩
            · obtain ⟨s1, k1, k2, k3⟩ := X_bk_go hB hN d (M := M) (mm := mm) (H := H) (x := Int32.ofNat kb) (y := Int32.ofNat i) (am := am) (i := i) (m := m) D (by omega) ha T
              obtain ⟨s2, j1, j2, j3, j4⟩ := T_num_y hB hN d (b := aL M mm [cO 0 [.ref (M + 1), .int (Int32.ofNat kb), .int (Int32.ofNat i)], cI 8 (cut 8 am)] H) D hs k2 n1 n2.1 n2.2
              have j4' : vcall (d + 3) m_Tp_readNumber [.ref 1, .int 0, .int (Int32.ofNat m - 1)] (bQ M mm H L s1 (Int32.ofNat kb) (Int32.ofNat i) am) = some (.inl (some (.int (Int32.ofNat (nv B N (sk B N a))))), bQ M mm H L s2 (Int32.ofNat kb) (Int32.ofNat i) am) := j4
              rw [ess] at j3
              have px : vcall (d + 4) m_Bk_readLine [.ref M, .ref 1, .int (Int32.ofNat m)] (bQ M mm H L s1 (Int32.ofNat kb) (Int32.ofNat i) am) = _ := (bQ_v o rfl).trans (B_Bk_readLine_0 _ _ _ _ _)
              rw [j4', kC1_v, if_pos (by rw [ii_n1 (by omega)]; exact id), X_hasLine (d + 1) o, kC1_v] at px
              rw [if_neg nb, if_pos rfl, (bQ_g o).2.2, obs, if_neg (by rw [hi8]; decide)] at px
              have fa : vcall (d + 3) m_Tp_failAtStart [.ref 1, .int 3] (bQ M mm H L s2 (Int32.ofNat kb) (Int32.ofNat i) am) = some (.inl (some (.int 0)), bQ M mm H L (wF (wF s2 23 3) 22 (s2.1 26)) (Int32.ofNat kb) (Int32.ofNat i) am) := T_failAt (d + 2) D 3
              rw [fa, kC1_v, if_pos (by decide)] at px
              refine ⟨wF (wF s2 23 3) 22 (s2.1 26), Int32.ofNat kb, Int32.ofNat i, am, (((k1.up (by decide) (by decide)).tr (j1.up (by decide) (by decide))).wF (by decide) _).wF (by decide) _, ⟨rfl, j3⟩, k3.trans ?_⟩
              rw [if_pos hg, px, kC1_v, if_pos rfl]
            · obtain ⟨t1, k1, k2, k3⟩ := R_bk_go hB hN d b ha T h5 h22 hg l1 (Int32.ofNat i) l3 l4 l5
              have h5a : t1.1 5 = -1 := (k1.1 5 (by decide)).trans h5
              obtain ⟨t2, j1, j2, j3⟩ := R_num_y hB hN d b hs k2 h5a n1 (m_1 h8) n2.1 n2.2
              have h5b : t2.1 5 = -1 := (j1.1 5 (by decide)).trans h5a
              have b52 : t2.2 52 = bo := ((j1.2 52 (by decide)).trans (k1.2 52 (by decide))).trans hbo
              have g52 : gI (mS b t2) 52 (Int32.ofNat (nv B N (sk B N a))) = some (bo (nv B N (sk B N a))) := by rw [m_gI0 (n := 8) (by decide) (by decide) rfl (by decide) _ v8, b52]
              have g46 : gFr (mS b t2) 30 11 46 = some 52 := gFr_at mS_30 rfl
              rw [j3, kC1_v, R_fine1 (d + 2) b h5b, kC1_v, if_neg (by decide), g46, obs, g52, obs] at k3
              rw [b1, if_pos rfl, B_R_book_128, R_fine1 (d + 2) b h5b, kC1_v, if_neg (by decide), if_neg (by rw [hi8]; decide), R_wrong (d + 2) b h5b, kC0_v] at k3
              have hb : (wF (wF t2 5 (Int32.ofNat (sk B N a))) 6 3).1 5 ≠ -1 := FR_b (k := 3) (p := sk B N a) ⟨rfl, rfl⟩ (by omega)
              rw [B_R_book_147, R_num_b (d + 1) b hb, kC1_v, R_sign_b (d + 1) b hb, kC0_v, R_fine0 (d + 2) b hb, kC1_v, if_neg (by decide)] at k3
              exact ⟨wF (wF t2 5 (Int32.ofNat (sk B N a))) 6 3, _, _, _, _, ((((k1.up (by decide) (by decide)).tr (j1.up (by decide) (by decide)))).wF (by decide) _).wF (by decide) _, ⟨rfl, rfl⟩, k3⟩
          · have i8 : Int32.ofNat i < 8 := by show Int32.ofNat i < Int32.ofNat 8; rw [ii_lt (by omega) (by omega)]; omega
            have ni8 : ¬ Int32.ofNat i = 8 := by show ¬ Int32.ofNat i = Int32.ofNat 8; rw [ii_eq (by omega) (by omega)]; omega
            rcases NUM hB hN a2 (lo := 0) (hi := 9999) (by decide) with ⟨w1, w2⟩ | ⟨k, p, hk, hp, hX, hR⟩
            · have w9 := ((nr_iff hB hN a2 (lo := 0) (hi := 9999) (by decide)).2.2 w2.2).2
              have a3 : de B N (sk B N (de B N (sk B N (sk B N a)))) ≤ N := rn_le (sk_le a2)
              obtain ⟨u1, u2, u3⟩ := bkR_up (w := nv B N (de B N (sk B N (sk B N a)))) hkb v8 w9 hbk
              have hXL : ∀ s, TX B N a s → ∃ s1 s3, Kf [25, 26] [] s s3 ∧ TX B N (de B N (sk B N (de B N (sk B N (sk B N a))))) s3 ∧ vcall (d + 4) m_Bk_readLine [.ref M, .ref 1, .int (Int32.ofNat m)] (bQ M mm H L s1 (Int32.ofNat kb) (Int32.ofNat i) am) = some (.inl (some (.int 1)), bQ M mm H L s3 (Int32.ofNat (kb ||| 2 ^ nv B N (sk B N a))) (Int32.ofNat (i + 1)) (upd am (nv B N (sk B N a)) (Int32.ofNat (nv B N (de B N (sk B N (sk B N a))))))) ∧ den (d + 4) m_Bk_read 2 [.ref M, .ref 1, .int (Int32.ofNat m), .int (Int32.ofNat i)] [] (bQ M mm H L s (Int32.ofNat kb) (Int32.ofNat i) am) = kC1 (vcall (d + 4) m_Bk_readLine [.ref M, .ref 1, .int (Int32.ofNat m)] (bQ M mm H L s1 (Int32.ofNat kb) (Int32.ofNat i) am)) (fun v4 s3 => (if (v4 : Int32) = 0 then some (.inl (some (.int 0)), s3) else kC1 (vcall (d + 4) m_Tp_sign [.ref 1, .int 59] s3) (fun v6 s5 => (if ¬ (v6 : Int32) = 0 then den (d + 4) m_Bk_read 2 [.ref M, .ref 1, .int (Int32.ofNat m), .int (Int32.ofNat (i + 1))] [] s5 else some (.inl (some (.int 0)), s5))) xp)) xp := fun s T => by
                obtain ⟨s1, k1, k2, k3⟩ := X_bk_go hB hN d (M := M) (mm := mm) (H := H) (x := Int32.ofNat kb) (y := Int32.ofNat i) (am := am) (i := i) (m := m) D (by omega) ha T
                obtain ⟨s2, j1, j2, j3, j4⟩ := T_num_y hB hN d (b := aL M mm [cO 0 [.ref (M + 1), .int (Int32.ofNat kb), .int (Int32.ofNat i)], cI 8 (cut 8 am)] H) D hs k2 n1 n2.1 n2.2
                have j4' : vcall (d + 3) m_Tp_readNumber [.ref 1, .int 0, .int (Int32.ofNat m - 1)] (bQ M mm H L s1 (Int32.ofNat kb) (Int32.ofNat i) am) = some (.inl (some (.int (Int32.ofNat (nv B N (sk B N a))))), bQ M mm H L s2 (Int32.ofNat kb) (Int32.ofNat i) am) := j4
                rw [ess] at j3
                have px : vcall (d + 4) m_Bk_readLine [.ref M, .ref 1, .int (Int32.ofNat m)] (bQ M mm H L s1 (Int32.ofNat kb) (Int32.ofNat i) am) = _ := (bQ_v o rfl).trans (B_Bk_readLine_0 _ _ _ _ _)
                rw [j4', kC1_v, if_pos (by rw [ii_n1 (by omega)]; exact id), X_hasLine (d + 1) o, kC1_v] at px
                obtain ⟨s3, q1, q2, q3, q4⟩ := T_num_y hB hN d (b := aL M mm [cO 0 [.ref (M + 1), .int (Int32.ofNat kb), .int (Int32.ofNat i)], cI 8 (cut 8 am)] H) D a2 j2 w1 w2.1 w2.2
                have q4' : vcall (d + 3) m_Tp_readNumber [.ref 1, .int 0, .int 9999] (bQ M mm H L s2 (Int32.ofNat kb) (Int32.ofNat i) am) = some (.inl (some (.int (Int32.ofNat (nv B N (de B N (sk B N (sk B N a))))))), bQ M mm H L s3 (Int32.ofNat kb) (Int32.ofNat i) am) := q4
                rw [if_neg nb, if_pos rfl, (bQ_g o).2.2, obs, if_pos i8, q4', kC1_v, if_pos (by rw [ii_n1 (by omega)]; exact id), (bQ_g o).1, obs, bQ_i o v8, obs, (bQ_g o).2.1, obs, (bQ_p o _).1, obs, (bQ_g o).2.2, obs, (bQ_p o _).2, obs, u1, ii_1] at px
                refine ⟨s1, s3, (k1.up (by decide) (by decide)).tr (j1.tr q1), q2, px, ?_⟩
                rw [if_pos hg] at k3
                exact k3
              have hRL : ∀ (d : Nat) (b : pS) (τ : rT) (l1 : Int32) (l3 l4 l5 : Value), TR B N a τ → τ.1 5 = -1 → τ.1 22 = Int32.ofNat m → τ.2 52 = bo → ∃ τ3, Kf [4] [] τ τ3 ∧ TR B N (de B N (sk B N (de B N (sk B N (sk B N a))))) τ3 ∧ den (d + 3) m_R_book 67 [.ref 30, .int l1, .int (Int32.ofNat i), l3, l4, l5] [] (mS b τ) = kC0 (vcall (d + 3) m_R_sign [.ref 30, .int 59] (mS b τ3)) (fun s3 => kC1 (vcall (d + 3) m_R_fine [.ref 30] s3) (fun v5 s4 => (if ¬ (v5 : Int32) = 0 then ((gFr s4 30 11 46).bind fun v6 => ((pI s4 v6 (Int32.ofNat (nv B N (sk B N a))) (Int32.ofNat (nv B N (de B N (sk B N (sk B N a)))))).bind fun s7 => den (d + 3) m_R_book 67 [.ref 30, .int l1, .int (Int32.ofNat (i + 1)), .int (Int32.ofNat (sk B N a)), .int (Int32.ofNat (nv B N (sk B N a))), .int (Int32.ofNat (nv B N (de B N (sk B N (sk B N a)))))] [] s7)) else den (d + 3) m_R_book 188 [.ref 30, .int l1, .int (Int32.ofNat i), .int (Int32.ofNat (sk B N a)), .int (Int32.ofNat (nv B N (sk B N a))), .int (Int32.ofNat (nv B N (de B N (sk B N (sk B N a)))))] [] s4)) xp) xp := fun d b τ l1 l3 l4 l5 T h5 h22 hbo => by
                obtain ⟨t1, k1, k2, k3⟩ := R_bk_go hB hN d b ha T h5 h22 hg l1 (Int32.ofNat i) l3 l4 l5
                have h5a : t1.1 5 = -1 := (k1.1 5 (by decide)).trans h5
                obtain ⟨t2, j1, j2, j3⟩ := R_num_y hB hN d b hs k2 h5a n1 (m_1 h8) n2.1 n2.2
                have h5b : t2.1 5 = -1 := (j1.1 5 (by decide)).trans h5a
                have b52 : t2.2 52 = bo := ((j1.2 52 (by decide)).trans (k1.2 52 (by decide))).trans hbo
                have g52 : gI (mS b t2) 52 (Int32.ofNat (nv B N (sk B N a))) = some (bo (nv B N (sk B N a))) := by rw [m_gI0 (n := 8) (by decide) (by decide) rfl (by decide) _ v8, b52]
                have g46 : gFr (mS b t2) 30 11 46 = some 52 := gFr_at mS_30 rfl
                rw [j3, kC1_v, R_fine1 (d + 2) b h5b, kC1_v, if_neg (by decide), g46, obs, g52, obs] at k3
                obtain ⟨t3, q1, q2, q3⟩ := R_num_y hB hN d b a2 j2 h5b w1 (by decide) w2.1 w2.2
                rw [b1, if_pos rfl, B_R_book_128, R_fine1 (d + 2) b h5b, kC1_v, if_neg (by decide), if_pos ni8, B_R_book_147, q3, kC1_v, ii_1] at k3
                exact ⟨t3, k1.tr (j1.tr q1), q2, k3⟩
              rcases SGN hB hN a3 (c := 59) (by decide) (by decide) with hc | ⟨k, p, hk, hp, hX, hR⟩
              · have a4 : sk B N (de B N (sk B N (de B N (sk B N (sk B N a))))) + 1 ≤ N := hc.1
                have hR' : ∀ (d : Nat) (b : pS) (τ : rT) (l1 : Int32) (l3 l4 l5 : Value), TR B N a τ → τ.1 5 = -1 → τ.1 22 = Int32.ofNat m → τ.2 52 = bo → ∃ τ4, Kf [4] [52] τ τ4 ∧ TR B N (sk B N (de B N (sk B N (de B N (sk B N (sk B N a))))) + 1) τ4 ∧ τ4.2 52 = upd bo (nv B N (sk B N a)) (Int32.ofNat (nv B N (de B N (sk B N (sk B N a))))) ∧ den (d + 3) m_R_book 67 [.ref 30, .int l1, .int (Int32.ofNat i), l3, l4, l5] [] (mS b τ) = den (d + 3) m_R_book 67 [.ref 30, .int l1, .int (Int32.ofNat (i + 1)), .int (Int32.ofNat (sk B N a)), .int (Int32.ofNat (nv B N (sk B N a))), .int (Int32.ofNat (nv B N (de B N (sk B N (sk B N a)))))] [] (mS b τ4) := fun d b τ l1 l3 l4 l5 T h5 h22 hbo => by
                  obtain ⟨t3, q1, q2, q3⟩ := hRL d b τ l1 l3 l4 l5 T h5 h22 hbo
                  have h5c : t3.1 5 = -1 := (q1.1 5 (by decide)).trans h5
                  obtain ⟨t4, r1, r2, r3⟩ := R_sign_y hB hN (d + 1) b a3 q2 h5c (by decide) (by decide) hc
                  have h5d : t4.1 5 = -1 := (r1.1 5 (by decide)).trans h5c
                  have b52 : t4.2 52 = bo := ((r1.2 52 (by decide)).trans (q1.2 52 (by decide))).trans hbo
                  have r3' : vcall (d + 3) m_R_sign [.ref 30, .int 59] (mS b t3) = some (.inl none, mS b t4) := r3
                  have g46 : gFr (mS b t4) 30 11 46 = some 52 := gFr_at mS_30 rfl
                  rw [r3', kC0_v, R_fine1 (d + 2) b h5d, kC1_v, if_pos (by decide), g46, obs, m_pI0 (n := 8) (by decide) (by decide) rfl (by decide) _ _ v8, obs] at q3
                  refine ⟨wA t4 52 (nv B N (sk B N a)) (Int32.ofNat (nv B N (de B N (sk B N (sk B N a))))), ((q1.tr r1).up (by decide) (by decide)).wA (by decide) _ _, ⟨r2.1, r2.2.1, r2.2.2⟩, ?_, q3⟩
                  rw [wA_2, if_pos rfl, b52]
                have hX' : ∀ s, TX B N a s → ∃ s4, Kf [25, 26] [] s s4 ∧ TX B N (sk B N (de B N (sk B N (de B N (sk B N (sk B N a))))) + 1) s4 ∧ den (d + 4) m_Bk_read 2 [.ref M, .ref 1, .int (Int32.ofNat m), .int (Int32.ofNat i)] [] (bQ M mm H L s (Int32.ofNat kb) (Int32.ofNat i) am) = den (d + 4) m_Bk_read 2 [.ref M, .ref 1, .int (Int32.ofNat m), .int (Int32.ofNat (i + 1))] [] (bQ M mm H L s4 (Int32.ofNat (kb ||| 2 ^ nv B N (sk B N a))) (Int32.ofNat (i + 1)) (upd am (nv B N (sk B N a)) (Int32.ofNat (nv B N (de B N (sk B N (sk B N a))))))) := fun s T => by
                  obtain ⟨s1, s3, q1, q2, q3, q4⟩ := hXL s T
                  obtain ⟨s4, r1, r2, r3⟩ := T_sign_y hB hN (d + 1) (b := aL M mm [cO 0 [.ref (M + 1), .int (Int32.ofNat (kb ||| 2 ^ nv B N (sk B N a))), .int (Int32.ofNat (i + 1))], cI 8 (cut 8 (upd am (nv B N (sk B N a)) (Int32.ofNat (nv B N (de B N (sk B N (sk B N a)))))))] H) D a3 q2 (by decide) hc
                  have r3' : vcall (d + 4) m_Tp_sign [.ref 1, .int 59] (bQ M mm H L s3 (Int32.ofNat (kb ||| 2 ^ nv B N (sk B N a))) (Int32.ofNat (i + 1)) (upd am (nv B N (sk B N a)) (Int32.ofNat (nv B N (de B N (sk B N (sk B N a))))))) = some (.inl (some (.int 1)), bQ M mm H L s4 (Int32.ofNat (kb ||| 2 ^ nv B N (sk B N a))) (Int32.ofNat (i + 1)) (upd am (nv B N (sk B N a)) (Int32.ofNat (nv B N (de B N (sk B N (sk B N a))))))) := r3
                  refine ⟨s4, q1.tr (r1.up (by decide) (by decide)), r2, q4.trans ?_⟩
                  rw [q3, kC1_v, if_neg (by decide), r3', kC1_v, if_pos (by decide)]
                rcases ih (f - 1) (by omega) (i + 1) _ _ _ _ (by omega) a4 u2 u3 with ⟨i', kb', am', bo', z1, z2, z3, z4, z5⟩ | ⟨k, p, hk, hp, z4, z5⟩
                · refine Or.inl ⟨i', kb', am', bo', z1, z2, z3, fun s T => ?_, fun d b τ l1 l3 l4 l5 T h5 h22 hbo => ?_⟩
                  · obtain ⟨s4, q1, q2, q3⟩ := hX' s T
                    obtain ⟨s5, y1, y2⟩ := z4 s4 q2
                    exact ⟨s5, q1.tr y1, q3.trans y2⟩
                  · obtain ⟨t4, q1, q2, q3, q4⟩ := hR' d b τ l1 l3 l4 l5 T h5 h22 hbo
                    obtain ⟨t5, l3', l4', l5', y1, y2, y3⟩ := z5 d b t4 l1 _ _ _ q2 ((q1.1 5 (by decide)).trans h5) ((q1.1 22 (by decide)).trans h22) q3
                    exact ⟨t5, l3', l4', l5', q1.tr y1, y2, q4.trans y3⟩
                · refine Or.inr ⟨k, p, hk, hp, fun s T => ?_, fun d b τ l1 l3 l4 l5 T h5 h22 hbo => ?_⟩
                  · obtain ⟨s4, q1, q2, q3⟩ := hX' s T
                    obtain ⟨s5, x', y', am', y1, y2, y3⟩ := z4 s4 q2
                    exact ⟨s5, x', y', am', (q1.up (by decide) (by decide)).tr y1, y2, q3.trans y3⟩
                  · obtain ⟨t4, q1, q2, q3, q4⟩ := hR' d b τ l1 l3 l4 l5 T h5 h22 hbo
                    obtain ⟨t5, i', l3', l4', l5', y1, y2, y3⟩ := z5 d b t4 l1 _ _ _ q2 ((q1.1 5 (by decide)).trans h5) ((q1.1 22 (by decide)).trans h22) q3
                    exact ⟨t5, i', l3', l4', l5', (q1.up (by decide) (by decide)).tr y1, y2, q4.trans y3⟩
              · refine Or.inr ⟨k, p, hk, hp, fun s T => ?_, fun d b τ l1 l3 l4 l5 T h5 h22 hbo => ?_⟩
                · obtain ⟨s1, s3, q1, q2, q3, q4⟩ := hXL s T
                  obtain ⟨s4, r1, r2, r3⟩ := hX (d + 1) (aL M mm [cO 0 [.ref (M + 1), .int (Int32.ofNat (kb ||| 2 ^ nv B N (sk B N a))), .int (Int32.ofNat (i + 1))], cI 8 (cut 8 (upd am (nv B N (sk B N a)) (Int32.ofNat (nv B N (de B N (sk B N (sk B N a)))))))] H) L s3 D q2
                  have r3' : vcall (d + 4) m_Tp_sign [.ref 1, .int 59] (bQ M mm H L s3 (Int32.ofNat (kb ||| 2 ^ nv B N (sk B N a))) (Int32.ofNat (i + 1)) (upd am (nv B N (sk B N a)) (Int32.ofNat (nv B N (de B N (sk B N (sk B N a))))))) = some (.inl (some (.int 0)), bQ M mm H L s4 (Int32.ofNat (kb ||| 2 ^ nv B N (sk B N a))) (Int32.ofNat (i + 1)) (upd am (nv B N (sk B N a)) (Int32.ofNat (nv B N (de B N (sk B N (sk B N a))))))) := r3
                  refine ⟨s4, Int32.ofNat (kb ||| 2 ^ nv B N (sk B N a)), Int32.ofNat (i + 1), upd am (nv B N (sk B N a)) (Int32.ofNat (nv B N (de B N (sk B N (sk B N a))))), (q1.up (by decide) (by decide)).tr (r1.up (by decide) (by decide)), r2, q4.trans ?_⟩
                  rw [q3, kC1_v, if_neg (by decide), r3', kC1_v, if_neg (by decide)]
                · obtain ⟨t3, q1, q2, q3⟩ := hRL d b τ l1 l3 l4 l5 T h5 h22 hbo
                  obtain ⟨t4, r1, r2, r3⟩ := hR (d + 1) b t3 q2 ((q1.1 5 (by decide)).trans h5)
                  have r3' : vcall (d + 3) m_R_sign [.ref 30, .int 59] (mS b t3) = some (.inl none, mS b t4) := r3
                  have hb := FR_b r2 hp
                  rw [r3', kC0_v, R_fine0 (d + 2) b hb, kC1_v, if_neg (by decide)] at q3
                  exact ⟨t4, _, _, _, _, (q1.up (by decide) (by decide)).tr (r1.up (by decide) (by decide)), r2, q3⟩
            · refine Or.inr ⟨k, p, hk, hp, fun s T => ?_, fun d b τ l1 l3 l4 l5 T h5 h22 hbo => ?_⟩
              · obtain ⟨s1, k1, k2, k3⟩ := X_bk_go hB hN d (M := M) (mm := mm) (H := H) (x := Int32.ofNat kb) (y := Int32.ofNat i) (am := am) (i := i) (m := m) D (by omega) ha T
                obtain ⟨s2, j1, j2, j3, j4⟩ := T_num_y hB hN d (b := aL M mm [cO 0 [.ref (M + 1), .int (Int32.ofNat kb), .int (Int32.ofNat i)], cI 8 (cut 8 am)] H) D hs k2 n1 n2.1 n2.2
                have j4' : vcall (d + 3) m_Tp_readNumber [.ref 1, .int 0, .int (Int32.ofNat m - 1)] (bQ M mm H L s1 (Int32.ofNat kb) (Int32.ofNat i) am) = some (.inl (some (.int (Int32.ofNat (nv B N (sk B N a))))), bQ M mm H L s2 (Int32.ofNat kb) (Int32.ofNat i) am) := j4
                rw [ess] at j3
                have px : vcall (d + 4) m_Bk_readLine [.ref M, .ref 1, .int (Int32.ofNat m)] (bQ M mm H L s1 (Int32.ofNat kb) (Int32.ofNat i) am) = _ := (bQ_v o rfl).trans (B_Bk_readLine_0 _ _ _ _ _)
                rw [j4', kC1_v, if_pos (by rw [ii_n1 (by omega)]; exact id), X_hasLine (d + 1) o, kC1_v] at px
                obtain ⟨s3, q1, q2, q3⟩ := hX d (aL M mm [cO 0 [.ref (M + 1), .int (Int32.ofNat kb), .int (Int32.ofNat i)], cI 8 (cut 8 am)] H) L s2 D j2
                have q3' : vcall (d + 3) m_Tp_readNumber [.ref 1, .int 0, .int 9999] (bQ M mm H L s2 (Int32.ofNat kb) (Int32.ofNat i) am) = some (.inl (some (.int (-1))), bQ M mm H L s3 (Int32.ofNat kb) (Int32.ofNat i) am) := q3
                rw [if_neg nb, if_pos rfl, (bQ_g o).2.2, obs, if_pos i8, q3', kC1_v, if_neg (by simp)] at px
                refine ⟨s3, Int32.ofNat kb, Int32.ofNat i, am, ((k1.up (by decide) (by decide)).tr (j1.up (by decide) (by decide))).tr q1, q2, k3.trans ?_⟩
                rw [if_pos hg, px, kC1_v, if_pos rfl]
              · obtain ⟨t1, k1, k2, k3⟩ := R_bk_go hB hN d b ha T h5 h22 hg l1 (Int32.ofNat i) l3 l4 l5
                have h5a : t1.1 5 = -1 := (k1.1 5 (by decide)).trans h5
                obtain ⟨t2, j1, j2, j3⟩ := R_num_y hB hN d b hs k2 h5a n1 (m_1 h8) n2.1 n2.2
                have h5b : t2.1 5 = -1 := (j1.1 5 (by decide)).trans h5a
                have b52 : t2.2 52 = bo := ((j1.2 52 (by decide)).trans (k1.2 52 (by decide))).trans hbo
                have g52 : gI (mS b t2) 52 (Int32.ofNat (nv B N (sk B N a))) = some (bo (nv B N (sk B N a))) := by rw [m_gI0 (n := 8) (by decide) (by decide) rfl (by decide) _ v8, b52]
                have g46 : gFr (mS b t2) 30 11 46 = some 52 := gFr_at mS_30 rfl
                rw [j3, kC1_v, R_fine1 (d + 2) b h5b, kC1_v, if_neg (by decide), g46, obs, g52, obs] at k3
                obtain ⟨t3, q1, q2, q3⟩ := hR d b t2 j2 h5b
                have hb := FR_b q2 hp
                rw [b1, if_pos rfl, B_R_book_128, R_fine1 (d + 2) b h5b, kC1_v, if_neg (by decide), if_pos ni8, B_R_book_147, q3, kC1_v, R_sign_b (d + 1) b hb, kC0_v, R_fine0 (d + 2) b hb, kC1_v, if_neg (by decide)] at k3
                exact ⟨t3, _, _, _, _, ((k1.up (by decide) (by decide)).tr (j1.up (by decide) (by decide))).tr (q1.up (by decide) (by decide)), q2, k3⟩
        · refine Or.inr ⟨2, sk B N a, by decide, by omega, fun s T => ?_, fun d b τ l1 l3 l4 l5 T h5 h22 hbo => ?_⟩
          · obtain ⟨s1, k1, k2, k3⟩ := X_bk_go hB hN d (M := M) (mm := mm) (H := H) (x := Int32.ofNat kb) (y := Int32.ofNat i) (am := am) (i := i) (m := m) D (by omega) ha T
            obtain ⟨s2, j1, j2, j3, j4⟩ := T_num_y hB hN d (b := aL M mm [cO 0 [.ref (M + 1), .int (Int32.ofNat kb), .int (Int32.ofNat i)], cI 8 (cut 8 am)] H) D hs k2 n1 n2.1 n2.2
            have j4' : vcall (d + 3) m_Tp_readNumber [.ref 1, .int 0, .int (Int32.ofNat m - 1)] (bQ M mm H L s1 (Int32.ofNat kb) (Int32.ofNat i) am) = some (.inl (some (.int (Int32.ofNat (nv B N (sk B N a))))), bQ M mm H L s2 (Int32.ofNat kb) (Int32.ofNat i) am) := j4
            rw [ess] at j3
            have px : vcall (d + 4) m_Bk_readLine [.ref M, .ref 1, .int (Int32.ofNat m)] (bQ M mm H L s1 (Int32.ofNat kb) (Int32.ofNat i) am) = _ := (bQ_v o rfl).trans (B_Bk_readLine_0 _ _ _ _ _)
            rw [j4', kC1_v, if_pos (by rw [ii_n1 (by omega)]; exact id), X_hasLine (d + 1) o, kC1_v] at px
            rw [if_pos b3, if_neg (by decide)] at px
            have fa : vcall (d + 3) m_Tp_failAtStart [.ref 1, .int 2] (bQ M mm H L s2 (Int32.ofNat kb) (Int32.ofNat i) am) = some (.inl (some (.int 0)), bQ M mm H L (wF (wF s2 23 2) 22 (s2.1 26)) (Int32.ofNat kb) (Int32.ofNat i) am) := T_failAt (d + 2) D 2
            rw [fa, kC1_v, if_pos (by decide)] at px
            refine ⟨wF (wF s2 23 2) 22 (s2.1 26), Int32.ofNat kb, Int32.ofNat i, am, (((k1.up (by decide) (by decide)).tr (j1.up (by decide) (by decide))).wF (by decide) _).wF (by decide) _, ⟨rfl, j3⟩, k3.trans ?_⟩
            rw [if_pos hg, px, kC1_v, if_pos rfl]
          · obtain ⟨t1, k1, k2, k3⟩ := R_bk_go hB hN d b ha T h5 h22 hg l1 (Int32.ofNat i) l3 l4 l5
            have h5a : t1.1 5 = -1 := (k1.1 5 (by decide)).trans h5
            obtain ⟨t2, j1, j2, j3⟩ := R_num_y hB hN d b hs k2 h5a n1 (m_1 h8) n2.1 n2.2
            have h5b : t2.1 5 = -1 := (j1.1 5 (by decide)).trans h5a
            have b52 : t2.2 52 = bo := ((j1.2 52 (by decide)).trans (k1.2 52 (by decide))).trans hbo
            have g52 : gI (mS b t2) 52 (Int32.ofNat (nv B N (sk B N a))) = some (bo (nv B N (sk B N a))) := by rw [m_gI0 (n := 8) (by decide) (by decide) rfl (by decide) _ v8, b52]
            have g46 : gFr (mS b t2) 30 11 46 = some 52 := gFr_at mS_30 rfl
            rw [j3, kC1_v, R_fine1 (d + 2) b h5b, kC1_v, if_neg (by decide), g46, obs, g52, obs] at k3
            have hb : (wF (wF t2 5 (Int32.ofNat (sk B N a))) 6 2).1 5 ≠ -1 := FR_b (k := 2) (p := sk B N a) ⟨rfl, rfl⟩ (by omega)
            rw [b1, if_neg (by rw [ii_n1 (by omega)]; exact id), R_wrong (d + 2) b h5b, kC0_v, R_bk_b d b hb] at k3
            exact ⟨wF (wF t2 5 (Int32.ofNat (sk B N a))) 6 2, _, _, _, _, ((((k1.up (by decide) (by decide)).tr (j1.up (by decide) (by decide)))).wF (by decide) _).wF (by decide) _, ⟨rfl, rfl⟩, k3⟩
      · refine Or.inr ⟨k, p, hk, hp, fun s T => ?_, fun d b τ l1 l3 l4 l5 T h5 h22 hbo => ?_⟩
        · obtain ⟨s1, k1, k2, k3⟩ := X_bk_go hB hN d (M := M) (mm := mm) (H := H) (x := Int32.ofNat kb) (y := Int32.ofNat i) (am := am) (i := i) (m := m) D (by omega) ha T
          obtain ⟨s2, j1, j2, j3⟩ := hX d (aL M mm [cO 0 [.ref (M + 1), .int (Int32.ofNat kb), .int (Int32.ofNat i)], cI 8 (cut 8 am)] H) L s1 D k2
          refine ⟨s2, Int32.ofNat kb, Int32.ofNat i, am, (k1.up (by decide) (by decide)).tr j1, j2, k3.trans ?_⟩
          have e : vcall (d + 4) m_Bk_readLine [.ref M, .ref 1, .int (Int32.ofNat m)] (bQ M mm H L s1 (Int32.ofNat kb) (Int32.ofNat i) am) = some (.inl (some (.int 0)), bQ M mm H L s2 (Int32.ofNat kb) (Int32.ofNat i) am) := by
            refine (bQ_v o rfl).trans ((B_Bk_readLine_0 _ _ _ _ _).trans ?_)
            have j3' : vcall (d + 3) m_Tp_readNumber [.ref 1, .int 0, .int (Int32.ofNat m - 1)] (bQ M mm H L s1 (Int32.ofNat kb) (Int32.ofNat i) am) = some (.inl (some (.int (-1))), bQ M mm H L s2 (Int32.ofNat kb) (Int32.ofNat i) am) := j3
            rw [j3', kC1_v, if_neg (by simp)]
          rw [if_pos hg, e, kC1_v, if_pos rfl]
        · obtain ⟨t1, k1, k2, k3⟩ := R_bk_go hB hN d b ha T h5 h22 hg l1 (Int32.ofNat i) l3 l4 l5
          obtain ⟨t2, j1, j2, j3⟩ := hR d b t1 k2 ((k1.1 5 (by decide)).trans h5)
          have hb := FR_b j2 hp
          refine ⟨t2, Int32.ofNat i, .int (Int32.ofNat (sk B N a)), .int 0, .int 0, (k1.up (by decide) (by decide)).tr (j1.up (by decide) (by decide)), j2, k3.trans ?_⟩
          rw [j3, kC1_v, R_fine0 (d + 2) b hb, kC1_v, if_pos rfl, R_bk_b d b hb]
    · -- the end
      refine Or.inl ⟨i, kb, am, bo, by omega, hkb, hbk, fun s T => ?_, fun d b τ l1 l3 l4 l5 T h5 h22 hbo => ?_⟩
      · obtain ⟨s1, k1, k2, k3⟩ := X_bk_go hB hN d (M := M) (mm := mm) (H := H) (x := Int32.ofNat kb) (y := Int32.ofNat i) (am := am) (i := i) (m := m) D (by omega) ha T
        exact ⟨s1, k1.up (by decide) (by decide), by rw [k3, if_neg hg]⟩
      · obtain ⟨t1, k1, k2, k3⟩ := R_isMore hB hN (d + 1) b ha T
        refine ⟨t1, l3, l4, l5, k1.up (by decide) (by decide), (k1.2 52 (by decide)).trans hbo, ?_⟩
        rw [B_R_book_67, R_fine1 (d + 2) b h5, kC1_v, if_neg (by decide), k3, kC1_v, if_neg hg, if_pos rfl]
