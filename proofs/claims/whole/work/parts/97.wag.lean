/-! AGAINS of work, by both, by program (gwk2.py) -/
theorem R_239b (d : Nat) (b : pS) {τ : rT} (h5 : τ.1 5 ≠ -1) (l1 l2 l3 : Int32) : den (d + 3) m_R_readStep 239 [.ref 30, .int l1, .int l2, .int l3] [] (mS b τ) = some (.inl none, mS b (wF τ 7 (τ.1 7 - 1))) := by
  have g7 : ∀ τ : rT, gFi (mS b τ) 30 11 7 = some (τ.1 7) := fun τ => gFi_at mS_30 rfl
  have h5' : (wF τ 7 (τ.1 7 - 1)).1 5 ≠ -1 := h5
  rw [B_R_readStep_239, R_sign_b (d + 1) b h5, kC0_v, g7, obs]
  simp only [m_pF, obs]
  rw [R_fine0 (d + 2) b h5', kC1_v, if_pos rfl, B_R_readStep_286, R_sign_b (d + 1) b h5', kC0_v]
theorem R_216b (d : Nat) (b : pS) {τ : rT} (h5 : τ.1 5 ≠ -1) (l1 l2 l3 : Int32) : den (d + 3) m_R_readStep 216 [.ref 30, .int l1, .int l2, .int l3] [] (mS b τ) = den (d + 3) m_R_readStep 239 [.ref 30, .int l1, .int l2, .int l3] [] (mS b τ) := by
  rw [B_R_readStep_216, R_fine0 (d + 2) b h5, kC1_v, if_pos rfl]
theorem FR_7 {τ : rT} {k p : Nat} (h : FR τ k p) (x : Int32) : FR (wF τ 7 x) k p := h
def gBR (B : Nat → Nat) (N m n dr a g u a' u' : Nat) (Z : Nat → Nat) : Prop := ∀ d b τ a0 l1 l2 l3, dr ≤ d → a0 ≤ N → sk B N a0 = sk B N a → TR B N a0 τ → RP m n g u τ → ∃ τ', Kf [4, 7, 36] [46] τ τ' ∧ TR B N (sk B N a') τ' ∧ RP m n g u' τ' ∧ (∀ j, j < 3 * u → τ'.2 46 j = τ.2 46 j) ∧ PZ τ' Z (3 * u) (3 * u') ∧ den d m_R_readStep 216 [.ref 30, .int l1, .int l2, .int l3] [] (mS b τ) = den d m_R_readStep 239 [.ref 30, .int l1, .int l2, .int l3] [] (mS b τ')
def bBR (B : Nat → Nat) (N m n dr a g u k p : Nat) : Prop := ∀ d b τ a0 l1 l2 l3, dr ≤ d → a0 ≤ N → sk B N a0 = sk B N a → TR B N a0 τ → RP m n g u τ → ∃ τ', Kf [4, 5, 6, 7, 36] [46] τ τ' ∧ FR τ' k p ∧ den d m_R_readStep 216 [.ref 30, .int l1, .int l2, .int l3] [] (mS b τ) = den d m_R_readStep 239 [.ref 30, .int l1, .int l2, .int l3] [] (mS b τ')
/-- what stands between the brackets of an again -/
def BOO (B : Nat → Nat) (N m n dr a g i u : Nat) : Prop := (∃ a' i' u' K F Q Z f, a ≤ a' ∧ a' ≤ N ∧ sk B N a' < N ∧ B (sk B N a') = 93 ∧ i ≤ i' ∧ 4 * i' + 3 * g ≤ a' ∧ u' ≤ i' ∧ Blk m n K F Q Z f i i' u u' ∧ gSX B N m n a g i a' i' K F Q ∧ gBR B N m n dr a g u a' u' Z) ∨ (∃ k p, k ≤ 3 ∧ p ≤ 600 ∧ bSX B N m n a g i k p ∧ bBR B N m n dr a g u k p)
theorem ST_again6 {B : Nat → Nat} {N : Nat} (hB : ∀ i, B i < 256) (hN : N ≤ 600) (h150 : N ≤ 150) {m n a g i u : Nat} (h8 : m ≤ 8) (h6 : n ≤ 6) (ha : a ≤ N) (hg : g ≤ 6) (pc1 : ¬ (sk B N a < N ∧ B (sk B N a) = 93 ∧ 0 < g)) (pc2 : ¬ (¬ sk B N a < N ∧ g = 0)) (hio : 4 * i + 3 * g ≤ a) (hu : u ≤ i) (g6 : g = 6) (hq : wq B (sk B N a) (we B N (sk B N a) - sk B N a) w_again 5) : STO B N m n 8 a g i u := by
  have hs := sk_le (B := B) ha
  have hsg := sk_ge (B := B) ha
  have ess := sk_sk (B := B) ha
  have he : we B N (sk B N a) ≤ N := rn_le hs
  have hge : sk B N a ≤ we B N (sk B N a) := rn_ge hs
  have hlen := hq.1
  have hw : sk B N a < we B N (sk B N a) := by omega
  subst g6
  refine Or.inr ⟨3, sk B N a, by decide, by omega, fun d M mm H L s r c l4 l5 hd D o T P hc => ?_, fun d b τ a0 hd h0 h0' T P => ?_⟩
  · obtain ⟨e, rfl⟩ : ∃ e, d = e + 8 := ⟨d - 8, by omega⟩
    obtain ⟨s1, k1, k2, k3, k4, k5⟩ := X_wkW hB hN h150 e (M := M) (mm := mm) (H := H) (r := r) (i := i) D o ha T P hg hc pc1 pc2 hw l4 l5
    obtain ⟨x15, y15, z15, e15⟩ := T_is hB hN (e + 5) (b := aL M mm (wkL M r ++ []) H) D k2 k3 he (by omega) HW_15
    have e15' : vcall (e + 7) m_Tp_wordIs [.ref 1, .ref (pSB + 15)] (kQ M mm H L s1 r []) = some (.inl (some (.int x15)), kQ M mm H L s1 r []) := e15
    rw [z15 (fun h => absurd (wq_x hq h) (by decide))] at e15'
    obtain ⟨x16, y16, z16, e16⟩ := T_is hB hN (e + 5) (b := aL M mm (wkL M r ++ []) H) D k2 k3 he (by omega) HW_16
    have e16' : vcall (e + 7) m_Tp_wordIs [.ref 1, .ref (pSB + 16)] (kQ M mm H L s1 r []) = some (.inl (some (.int x16)), kQ M mm H L s1 r []) := e16
    rw [z16 (fun h => absurd (wq_x hq h) (by decide))] at e16'
    obtain ⟨x17, y17, z17, e17⟩ := T_is hB hN (e + 5) (b := aL M mm (wkL M r ++ []) H) D k2 k3 he (by omega) HW_17
    have e17' : vcall (e + 7) m_Tp_wordIs [.ref 1, .ref (pSB + 17)] (kQ M mm H L s1 r []) = some (.inl (some (.int x17)), kQ M mm H L s1 r []) := e17
    rw [z17 (fun h => absurd (wq_x hq h) (by decide))] at e17'
    obtain ⟨x18, y18, z18, e18⟩ := T_is hB hN (e + 5) (b := aL M mm (wkL M r ++ []) H) D k2 k3 he (by omega) HW_18
    have e18' : vcall (e + 7) m_Tp_wordIs [.ref 1, .ref (pSB + 18)] (kQ M mm H L s1 r []) = some (.inl (some (.int x18)), kQ M mm H L s1 r []) := e18
    rw [z18 (fun h => absurd (wq_x hq h) (by decide))] at e18'
    obtain ⟨x19, y19, z19, e19⟩ := T_is hB hN (e + 5) (b := aL M mm (wkL M r ++ []) H) D k2 k3 he (by omega) HW_19
    have e19' : vcall (e + 7) m_Tp_wordIs [.ref 1, .ref (pSB + 19)] (kQ M mm H L s1 r []) = some (.inl (some (.int x19)), kQ M mm H L s1 r []) := e19
    rw [z19 (fun h => absurd (wq_x hq h) (by decide))] at e19'
    obtain ⟨x20, y20, z20, e20⟩ := T_is hB hN (e + 5) (b := aL M mm (wkL M r ++ []) H) D k2 k3 he (by omega) HW_20
    have e20' : vcall (e + 7) m_Tp_wordIs [.ref 1, .ref (pSB + 20)] (kQ M mm H L s1 r []) = some (.inl (some (.int x20)), kQ M mm H L s1 r []) := e20
    rw [y20 hq] at e20'
    have fa : vcall (e + 6) m_Tp_failAtStart [.ref 1, .int 3] (kQ M mm H L s1 r []) = some (.inl (some (.int 0)), kQ M mm H L (wF (wF s1 23 3) 22 (s1.1 26)) r []) := T_failAt (e + 5) D 3
    have g5 : gFi (kQ M mm H L s1 r []) M 9 5 = some (Int32.ofNat 6) := P.2.2.1 ▸ (kQ_gF o).1
    have ra : vcall (e + 7) m_Wk_readAgain [.ref M, .ref 1] (kQ M mm H L s1 r []) = some (.inl (some (.int 0)), kQ M mm H L (wF (wF s1 23 3) 22 (s1.1 26)) r []) := by
      refine (kQ_v o rfl).trans ((B_Wk_readAgain_0 _ _ _ _).trans ?_)
      rw [g5, obs, (kQ_gR o).2.2.2.2, obs, (kQ_gN o).2.2.2.2, obs, if_neg (by decide), fa, kC1_v, if_pos (by decide)]
    refine ⟨wF (wF s1 23 3) 22 (s1.1 26), r, ((k1.up (by decide) (by decide)).wF (by decide) _).wF (by decide) _, ⟨rfl, k3⟩, k4 _ ((kQ_v o rfl).trans ((B_Wk_readStep_0 _ _ _ _ _).trans ?_))⟩
    rw [e15', kC1_v, if_pos rfl, e16', kC1_v, if_pos rfl, e17', kC1_v, if_pos rfl, e18', kC1_v, if_pos rfl, e19', kC1_v, if_pos rfl, e20', kC1_v, if_neg (by decide), ra, kC1_v, if_pos (by decide)]
  · obtain ⟨e, rfl⟩ : ∃ e, d = e + 8 := ⟨d - 8, by omega⟩
    obtain ⟨t1, a1, b1, c1⟩ := R_word hB hN (e + 5) b h0 T
    rw [h0'] at b1 c1
    obtain ⟨t2, xc, a2, b2, yc, zc, c2⟩ := R_stands hB hN (e + 5) b hs b1 HW_34
    rw [ess] at b2 yc zc
    have P2 : RP m n 6 u t2 := RP_k (RP_k P a1) a2
    rw [zc (fun h => absurd (wq_x hq h) (by decide))] at c2
    have op1 : vcall (e + 7) m_R_opensOne [.ref 30, .int 5] (mS b t2) = some (.inl none, mS b (wF (wF (wF t2 5 (Int32.ofNat (sk B N a))) 6 3) 7 (Int32.ofNat 7))) := R_open6 (e + 5) b P2.1 b2.2.1 (by omega) P2.2.1 5
    have f1 : FR (wF (wF (wF t2 5 (Int32.ofNat (sk B N a))) 6 3) 7 (Int32.ofNat 7)) 3 (sk B N a) := ⟨rfl, rfl⟩
    have hb9 := FR_b f1 (by omega)
    have g36 : ∀ t : rT, gFi (mS b t) 30 11 36 = some (t.1 36) := fun t => gFi_at mS_30 rfl
    refine ⟨wF (wF (wF (wF t2 5 (Int32.ofNat (sk B N a))) 6 3) 7 (Int32.ofNat 7)) 7 (Int32.ofNat 7 - 1), (((((a1.tr a2).up (by decide) (by decide)).wF (by decide) _).wF (by decide) _).wF (by decide) _).wF (by decide) _, FR_7 f1 _, (vR rfl).trans ((B_R_readStep_0 _ _ _).trans ?_)⟩
    rw [c1, kC1_v, c2, kC1_v, if_pos rfl, R_of (e + 6) _ HW_33 (by decide), kC1_v, if_pos (by rw [word_eq hB hN hs HW_33 (by decide) (by decide)]; exact fun h => absurd (wq_x hq h) (by decide)), R_of (e + 6) _ HW_35 (by decide), kC1_v, if_pos (by rw [word_eq hB hN hs HW_35 (by decide) (by decide)]; exact fun h => absurd (wq_x hq h) (by decide)), R_of (e + 6) _ HW_36 (by decide), kC1_v, if_neg (by rw [word_eq hB hN hs HW_36 (by decide) (by decide)]; exact fun h => absurd (wq_x hq h) (by decide)), R_of (e + 6) _ HW_37 (by decide), kC1_v, if_pos (by rw [word_eq hB hN hs HW_37 (by decide) (by decide)]; exact fun h => absurd (wq_x hq h) (by decide)), R_of (e + 6) _ HW_38 (by decide), kC1_v, if_neg (by rw [word_eq hB hN hs HW_38 (by decide) (by decide)]; exact fun h => h hq), op1, kC0_v, R_num_b (e + 5) b hb9, kC1_v, R_sign_b (e + 5) b hb9, kC0_v, g36, obs, R_tells_b (e + 5) b hb9, kC0_v, R_216b (e + 4) b hb9, R_239b (e + 4) b hb9]
    rfl
theorem ST_again {B : Nat → Nat} {N : Nat} (hB : ∀ i, B i < 256) (hN : N ≤ 600) (h150 : N ≤ 150) {m n a g i u : Nat} (h8 : m ≤ 8) (h6 : n ≤ 6) (ha : a ≤ N) (hg : g ≤ 6) (pc1 : ¬ (sk B N a < N ∧ B (sk B N a) = 93 ∧ 0 < g)) (pc2 : ¬ (¬ sk B N a < N ∧ g = 0)) (hio : 4 * i + 3 * g ≤ a) (hu : u ≤ i) {dr : Nat} (h8r : 8 ≤ dr) (g6 : g < 6) (hq : wq B (sk B N a) (we B N (sk B N a) - sk B N a) w_again 5) (hBO : ∀ a i u, a ≤ N → 4 * i + 3 * (g + 1) ≤ a → u ≤ i → BOO B N m n dr a (g + 1) i u) : STO B N m n (dr + 1) a g i u := by
  have hs := sk_le (B := B) ha
  have hsg := sk_ge (B := B) ha
  have ess := sk_sk (B := B) ha
  have he : we B N (sk B N a) ≤ N := rn_le hs
  have hge : sk B N a ≤ we B N (sk B N a) := rn_ge hs
  have hlen := hq.1
  have hw : sk B N a < we B N (sk B N a) := by omega
  have hwe : sk B N a + 5 = we B N (sk B N a) := by omega
  have l6 : Int32.ofNat g < 6 := by show Int32.ofNat g < Int32.ofNat 6; rw [ii_lt (by omega) (by omega)]; omega
  rcases NUM hB hN he (lo := 0) (hi := 60) (by decide) with n0 | ⟨κ, p, hκ, hp, hX, hR⟩
  · have b1_ : de B N (sk B N (we B N (sk B N a))) ≤ N := rn_le (sk_le he)
    have g0_ : sk B N (we B N (sk B N a)) < de B N (sk B N (we B N (sk B N a))) := n0.1
    have h0_ := sk_ge (B := B) he
    have v0_ := (nv_b hB hN (lo := 0) (hi := 60) he (by decide) n0.2 (by decide)).2
    have h1_ := sk_ge (B := B) b1_
    rcases SGN hB hN b1_ (c := 91) (by decide) (by decide) with hsg1 | ⟨κ, p, hκ, hp, hX, hR⟩
    · rcases hBO (sk B N (de B N (sk B N (we B N (sk B N a)))) + 1) (i + 1) (u + 1) hsg1.1 (by omega) (by omega) with ⟨a3, i3, u3, K, F, Q, Z, f, z1, z2, z3, z4, z5, z6, z7, z8, zX, zR⟩ | ⟨κ, p, hκ, hp, zX, zR⟩
      · have u3_ := Blk_le _ _ _ _ _ z8
        have h3_ := sk_ge (B := B) z2
        have b4_ : sk B N a3 + 1 ≤ N := z3
        have h4_ := sk_ge (B := B) b4_
        have hXE : ∀ d M mm H L s r c l4 l5, 8 ≤ d → Dj L → (∀ j, M ≤ j → Ot L j) → TX B N a s → XP m n g i s r → c ≤ a → ∃ s5 r5 c5, Kf [25, 26] [] s s5 ∧ TX B N (sk B N a3 + 1) s5 ∧ XP m n g (i3 + 1) s5 r5 ∧ Fr i g r r5 ∧ PX r5 (fun j => if j = i then 5 else if j = i3 then 6 else K j) (fun j => if j = i then (nv B N (we B N (sk B N a))) else if j = i3 then i else F j) (fun j => if j = i then i3 else if j = i3 then 0 else Q j) i (i3 + 1) ∧ c5 ≤ a3 ∧ ∃ l5', den d m_Wk_read 2 [.ref M, .ref 1, .ref (aU L), .int (Int32.ofNat c), l4, l5] [] (kQ M mm H L s r []) = kC1 (kC1 (vcall (d - 1) m_Tp_sign [.ref 1, .int 59] (kQ M mm H L s5 r5 [])) (fun v4 s3 => (if (v4 : Int32) = 0 then some (.inl (some (.int 0)), s3) else some (.inl (some (.int 1)), s3))) xp) (fun v3 s2 => (if ¬ (v3 : Int32) = 0 then den d m_Wk_read 2 [.ref M, .ref 1, .ref (aU L), .int (Int32.ofNat (c5 + 1)), .int 93, .int v3] [] s2 else some (.inl (some (.int 0)), s2))) xp ∧ l5' = mk0 := fun d M mm H L s r c l4 l5 hd D o T P hc => by
          obtain ⟨e, rfl⟩ : ∃ e, d = e + 8 := ⟨d - 8, by omega⟩
          obtain ⟨s1, k1, k2, k3, k4, k5⟩ := X_wkW hB hN h150 e (M := M) (mm := mm) (H := H) (r := r) (i := i) D o ha T P hg hc pc1 pc2 hw l4 l5
          have P1 := XP_k P k1
          obtain ⟨x15, y15, z15, e15⟩ := T_is hB hN (e + 5) (b := aL M mm (wkL M r ++ []) H) D k2 k3 he (by omega) HW_15
          have e15' : vcall (e + 7) m_Tp_wordIs [.ref 1, .ref (pSB + 15)] (kQ M mm H L s1 r []) = some (.inl (some (.int x15)), kQ M mm H L s1 r []) := e15
          rw [z15 (fun h => absurd (wq_x hq h) (by decide))] at e15'
          obtain ⟨x16, y16, z16, e16⟩ := T_is hB hN (e + 5) (b := aL M mm (wkL M r ++ []) H) D k2 k3 he (by omega) HW_16
          have e16' : vcall (e + 7) m_Tp_wordIs [.ref 1, .ref (pSB + 16)] (kQ M mm H L s1 r []) = some (.inl (some (.int x16)), kQ M mm H L s1 r []) := e16
          rw [z16 (fun h => absurd (wq_x hq h) (by decide))] at e16'
          obtain ⟨x17, y17, z17, e17⟩ := T_is hB hN (e + 5) (b := aL M mm (wkL M r ++ []) H) D k2 k3 he (by omega) HW_17
          have e17' : vcall (e + 7) m_Tp_wordIs [.ref 1, .ref (pSB + 17)] (kQ M mm H L s1 r []) = some (.inl (some (.int x17)), kQ M mm H L s1 r []) := e17
          rw [z17 (fun h => absurd (wq_x hq h) (by decide))] at e17'
          obtain ⟨x18, y18, z18, e18⟩ := T_is hB hN (e + 5) (b := aL M mm (wkL M r ++ []) H) D k2 k3 he (by omega) HW_18
          have e18' : vcall (e + 7) m_Tp_wordIs [.ref 1, .ref (pSB + 18)] (kQ M mm H L s1 r []) = some (.inl (some (.int x18)), kQ M mm H L s1 r []) := e18
          rw [z18 (fun h => absurd (wq_x hq h) (by decide))] at e18'
          obtain ⟨x19, y19, z19, e19⟩ := T_is hB hN (e + 5) (b := aL M mm (wkL M r ++ []) H) D k2 k3 he (by omega) HW_19
          have e19' : vcall (e + 7) m_Tp_wordIs [.ref 1, .ref (pSB + 19)] (kQ M mm H L s1 r []) = some (.inl (some (.int x19)), kQ M mm H L s1 r []) := e19
          rw [z19 (fun h => absurd (wq_x hq h) (by decide))] at e19'
          obtain ⟨x20, y20, z20, e20⟩ := T_is hB hN (e + 5) (b := aL M mm (wkL M r ++ []) H) D k2 k3 he (by omega) HW_20
          have e20' : vcall (e + 7) m_Tp_wordIs [.ref 1, .ref (pSB + 20)] (kQ M mm H L s1 r []) = some (.inl (some (.int x20)), kQ M mm H L s1 r []) := e20
          rw [y20 hq] at e20'
          have g5 : gFi (kQ M mm H L s1 r []) M 9 5 = some (Int32.ofNat g) := P.2.2.1 ▸ (kQ_gF o).1
          obtain ⟨s2, p0, q0, r0, w0⟩ := T_num_y hB hN (e + 3) (b := aL M mm (wkL M r ++ []) H) D he k2 n0.1 n0.2.1 n0.2.2
          have w0' : vcall (e + 6) m_Tp_readNumber [.ref 1, .int 0, .int 60] (kQ M mm H L s1 r []) = some (.inl (some (.int (Int32.ofNat (nv B N (we B N (sk B N a)))))), kQ M mm H L s2 r []) := w0
          obtain ⟨s3, p1, q1, w1⟩ := T_sign_y hB hN (e + 3) (b := aL M mm (wkL M r ++ []) H) D b1_ q0 (by decide) hsg1
          have w1' : vcall (e + 6) m_Tp_sign [.ref 1, .int 91] (kQ M mm H L s2 r []) = some (.inl (some (.int 1)), kQ M mm H L s3 r []) := w1
          have P3 := XP_k (XP_k P1 p0) p1
          have e6 : (wF (wA r 5 g (Int32.ofNat i)) 5 (Int32.ofNat (g + 1))).1 6 = Int32.ofNat i := P.2.2.2
          have e5 : (wA r 5 g (Int32.ofNat i)).1 5 = Int32.ofNat g := P.2.2.1
          have ra : vcall (e + 7) m_Wk_readAgain [.ref M, .ref 1] (kQ M mm H L s1 r []) = some (.inl (some (.int 1)), kQ M mm H L s3 (wkA (wF (wA r 5 g (Int32.ofNat i)) 5 (Int32.ofNat (g + 1))) i 5 (Int32.ofNat (nv B N (we B N (sk B N a)))) 0) []) := by
            refine (kQ_v o rfl).trans ((B_Wk_readAgain_0 _ _ _ _).trans ?_)
            rw [g5, obs, (kQ_gR o).2.2.2.2, obs, (kQ_gN o).2.2.2.2, obs, if_pos l6, w0', kC1_v, if_neg (by rw [ii_n1 (by omega)]; exact id), w1', kC1_v, if_pos (by decide), (kQ_gR o).2.2.2.2, obs, (kQ_gF o).1, obs, P.2.2.1, (kQ_gF o).2.1, obs, P.2.2.2, (kQ_pI o _).2.2.2.2 (by omega), obs, (kQ_gF o).1, obs, e5, ii_1, (kQ_pF o _).1, obs, X_wadd (e + 5) o e6 (by omega), kC1_v, if_pos (by decide)]
          have q3 : TX B N (sk B N (de B N (sk B N (we B N (sk B N a)))) + 1) s3 := q1
          have PB : XP m n (g + 1) (i + 1) s3 (wkA (wF (wA r 5 g (Int32.ofNat i)) 5 (Int32.ofNat (g + 1))) i 5 (Int32.ofNat (nv B N (we B N (sk B N a)))) 0) := ⟨P3.1, P3.2.1, rfl, rfl⟩
          have go1 := k5 _ ((kQ_v o rfl).trans ((B_Wk_readStep_0 _ _ _ _ _).trans (by rw [e15', kC1_v, if_pos rfl, e16', kC1_v, if_pos rfl, e17', kC1_v, if_pos rfl, e18', kC1_v, if_pos rfl, e19', kC1_v, if_pos rfl, e20', kC1_v, if_neg (by decide), ra, kC1_v, if_pos (by decide)])))
          obtain ⟨s4, r4, c4, m4, n4, d1, d2, d3, d4, d5, d6, d7⟩ := zX (e + 8) M mm H L s3 _ (c + 1) (.int (pkX B N (sk B N a))) (.int 1) (by omega) D o q3 PB (by omega)
          obtain ⟨s5, f1, f2, f3⟩ := T_peek hB hN (e + 6) (b := aL M mm (wkL M r4 ++ []) H) D z2 d2
          have px : pkX B N (sk B N a3) = 93 := by unfold pkX; rw [if_pos z3, z4]; rfl
          have f3' : vcall (e + 8) m_Tp_peek [.ref 1] (kQ M mm H L s4 r4 []) = some (.inl (some (.int (pkX B N (sk B N a3)))), kQ M mm H L s5 r4 []) := f3
          have sp : vcall (e + 7) m_Tp_skip [.ref 1] (kQ M mm H L s5 r4 []) = some (.inl none, kQ M mm H L (wF s5 25 (Int32.ofNat (sk B N a3 + 1))) r4 []) := T_skip (e + 6) D f2.2.1
          have g5' : gFi (kQ M mm H L s5 r4 []) M 9 5 = some (Int32.ofNat (g + 1)) := d3.2.2.1 ▸ (kQ_gF o).1
          have o5 : (wF r4 5 (Int32.ofNat g)).2 5 g = Int32.ofNat i := (d4.2.1 g (by omega)).trans (upd_s _ _ _)
          have e6' : (wA (wF r4 5 (Int32.ofNat g)) 3 i (Int32.ofNat i3)).1 6 = Int32.ofNat i3 := d3.2.2.2
          have e6'' : (wF r4 5 (Int32.ofNat g)).1 6 = Int32.ofNat i3 := d3.2.2.2
          have re : vcall (e + 8) m_Wk_readEnd [.ref M, .ref 1] (kQ M mm H L s5 r4 []) = kC1 (vcall (e + 7) m_Tp_sign [.ref 1, .int 59] (kQ M mm H L (wF s5 25 (Int32.ofNat (sk B N a3 + 1))) (wkA (wA (wF r4 5 (Int32.ofNat g)) 3 i (Int32.ofNat i3)) i3 6 (Int32.ofNat i) 0) [])) (fun v4 s3 => (if (v4 : Int32) = 0 then some (.inl (some (.int 0)), s3) else some (.inl (some (.int 1)), s3))) xp := by
            refine (kQ_v o rfl).trans ((B_Wk_readEnd_0 _ _ _ _).trans ?_)
            rw [sp, kC0_v, (kQ_gF o).1, obs, d3.2.2.1, ii_s1, (kQ_pF o _).1, obs, (kQ_gR o).2.2.2.2, obs, (kQ_gF o).1, obs]
            have gi : gI (kQ M mm H L (wF s5 25 (Int32.ofNat (sk B N a3 + 1))) (wF r4 5 (Int32.ofNat g)) []) (M + 5) ((wF r4 5 (Int32.ofNat g)).1 5) = some (Int32.ofNat i) := ((kQ_gI o (k := g)).2.2.2.2 (by omega)).trans (congrArg some o5)
            rw [gi, obs, if_neg (by rw [ii_nn (by omega)]; exact id), (kQ_gR o).2.2.1, obs, (kQ_gN o).2.2.1, obs, if_neg (by show ¬ (Int32.ofNat 64 ≤ Int32.ofNat i); rw [ii_le (by omega) (by omega)]; omega), obs, (kQ_gF o).2.1, obs, e6'', (kQ_pI o _).2.2.1 (by omega), obs, B_Wk_readEnd_47, X_wadd (e + 6) o e6' (by omega), kC1_v, if_neg (by decide)]
          have kfin : Kf [25, 26] [] s (wF s5 25 (Int32.ofNat (sk B N a3 + 1))) := ((((k1.tr p0).tr (p1.up (by decide) (by decide))).tr d1).tr (f1.up (by decide) (by decide))).wF (by decide) _
          refine ⟨wF s5 25 (Int32.ofNat (sk B N a3 + 1)), wkA (wA (wF r4 5 (Int32.ofNat g)) 3 i (Int32.ofNat i3)) i3 6 (Int32.ofNat i) 0, c4, kfin, TX_w f2, ⟨(kfin.1 44 (by decide)).trans P.1, (kfin.1 45 (by decide)).trans P.2.1, rfl, rfl⟩, ⟨fun x hx => ?_, fun x hx => ?_, ?_, ?_⟩, fun x h1 h2 => ?_, d6, mk0, ?_, rfl⟩
          · have dd := d4.1 x (by omega)
            refine ⟨?_, ?_, ?_⟩
            · show upd (r4.2 1) i3 6 x = _
              rw [upd_n _ _ (by omega), dd.1]; exact upd_n _ _ (by omega)
            · show upd (r4.2 2) i3 (Int32.ofNat i) x = _
              rw [upd_n _ _ (by omega), dd.2.1]; exact upd_n _ _ (by omega)
            · show upd (upd (r4.2 3) i (Int32.ofNat i3)) i3 0 x = _
              rw [upd_n _ _ (by omega), upd_n _ _ (by omega), dd.2.2]; exact upd_n _ _ (by omega)
          · show r4.2 5 x = _
            rw [d4.2.1 x (by omega)]; exact upd_n _ _ (by omega)
          · exact d4.2.2.1
          · exact d4.2.2.2
          · show upd (r4.2 1) i3 6 x = Int32.ofNat (if x = i then 5 else if x = i3 then 6 else K x) ∧ upd (r4.2 2) i3 (Int32.ofNat i) x = Int32.ofNat (if x = i then (nv B N (we B N (sk B N a))) else if x = i3 then i else F x) ∧ upd (upd (r4.2 3) i (Int32.ofNat i3)) i3 0 x = Int32.ofNat (if x = i then i3 else if x = i3 then 0 else Q x)
            by_cases x1 : x = i
            · subst x1
              have dd := d4.1 x (by omega)
              rw [if_pos rfl, if_pos rfl, if_pos rfl, upd_n _ _ (by omega), upd_n _ _ (by omega), upd_n _ _ (by omega), upd_s, dd.1, dd.2.1]
              exact ⟨upd_s _ _ _, upd_s _ _ _, rfl⟩
            · rw [if_neg x1, if_neg x1, if_neg x1]
              by_cases x2 : x = i3
              · subst x2
                rw [if_pos rfl, if_pos rfl, if_pos rfl, upd_s, upd_s, upd_s]
                exact ⟨rfl, rfl, rfl⟩
              · rw [if_neg x2, if_neg x2, if_neg x2, upd_n _ _ x2, upd_n _ _ x2, upd_n _ _ x2, upd_n _ _ x1]
                exact d5 x (by omega) (by omega)
          · rw [go1, d7, B_Wk_read_2, if_neg (by show ¬ (Int32.ofNat 150 < Int32.ofNat c4); rw [ii_lt (by omega) (by omega)]; omega), f3', kC1_v, if_pos (by rw [px]; decide), B_Wk_read_30, if_neg (fun h => h px), g5', obs, if_neg (by show ¬ (Int32.ofNat (g + 1) ≤ Int32.ofNat 0); rw [ii_le (by omega) (by omega)]; omega), re, ii_1, px]
            rfl
        have hRE : ∀ d b τ a0, dr + 1 ≤ d → a0 ≤ N → sk B N a0 = sk B N a → TR B N a0 τ → RP m n g u τ → ∃ t9, Kf [4, 7, 36] [46] τ t9 ∧ TR B N (sk B N a3 + 1) t9 ∧ RP m n g u3 t9 ∧ (∀ j, j < 3 * u → t9.2 46 j = τ.2 46 j) ∧ PZ t9 (fun j => if j = 3 * u then 5 else if j = 3 * u + 1 then (nv B N (we B N (sk B N a))) else if j = 3 * u + 2 then 3 * u3 else Z j) (3 * u) (3 * u3) ∧ vcall d m_R_readStep [.ref 30] (mS b τ) = kC0 (vcall (d - 1) m_R_sign [.ref 30, .int 59] (mS b t9)) (fun s1 => some (.inl none, s1)) xp := fun d b τ a0 hd h0 h0' T P => by
          obtain ⟨e, rfl⟩ : ∃ e, d = e + 8 := ⟨d - 8, by omega⟩
          obtain ⟨t1, a1, b1, c1⟩ := R_word hB hN (e + 5) b h0 T
          rw [h0'] at b1 c1
          obtain ⟨t2, xc, a2, b2, yc, zc, c2⟩ := R_stands hB hN (e + 5) b hs b1 HW_34
          rw [ess] at b2 yc zc
          have P2 : RP m n g u t2 := RP_k (RP_k P a1) a2
          rw [zc (fun h => absurd (wq_x hq h) (by decide))] at c2
          have op1 : vcall (e + 7) m_R_opensOne [.ref 30, .int 5] (mS b t2) = some (.inl none, mS b (wF (wF t2 4 (Int32.ofNat (sk B N a + 5))) 7 (Int32.ofNat (g + 1)))) := R_open (e + 5) b (k := 5) P2.1 b2.2.1 P2.2.1 (by omega)
          have b3 : TR B N (we B N (sk B N a)) (wF (wF t2 4 (Int32.ofNat (sk B N a + 5))) 7 (Int32.ofNat (g + 1))) := ⟨b2.1, by rw [← hwe]; rfl, b2.2.2⟩
          have P3 : RP m n (g + 1) u (wF (wF t2 4 (Int32.ofNat (sk B N a + 5))) 7 (Int32.ofNat (g + 1))) := ⟨P2.1, rfl, P2.2.2.1, P2.2.2.2.1, P2.2.2.2.2⟩
          have a3 : Kf [4, 7, 36] [46] τ (wF (wF t2 4 (Int32.ofNat (sk B N a + 5))) 7 (Int32.ofNat (g + 1))) := (((a1.tr a2).up (by decide) (by decide)).wF (by decide) _).wF (by decide) _
          have g36 : ∀ t : rT, gFi (mS b t) 30 11 36 = some (t.1 36) := fun t => gFi_at mS_30 rfl
          obtain ⟨t4, a4, b4, c4⟩ := R_num_y hB hN (e + 4) b he b3 P3.1 n0.1 (by decide) n0.2.1 n0.2.2
          have c4' : vcall (e + 7) m_R_readNumber [.ref 30, .int 0, .int 60] (mS b (wF (wF t2 4 (Int32.ofNat (sk B N a + 5))) 7 (Int32.ofNat (g + 1)))) = _ := c4
          have P4 : RP m n (g + 1) u t4 := RP_k P3 a4
          obtain ⟨t5, a5, b5, c5⟩ := R_sign_y hB hN (e + 5) b b1_ b4 P4.1 (by decide) (by decide) hsg1
          have c5' : vcall (e + 7) m_R_sign [.ref 30, .int 91] (mS b t4) = some (.inl none, mS b t5) := c5
          have P5 : RP m n (g + 1) u t5 := RP_k P4 a5
          have kk := rkA_k t5 u 5 (Int32.ofNat (nv B N (we B N (sk B N a)))) 0
          have tl : vcall (e + 7) m_R_tellsStep [.ref 30, .int 5, .int (Int32.ofNat (nv B N (we B N (sk B N a)))), .int 0] (mS b t5) = some (.inl none, mS b (rkA t5 u 5 (Int32.ofNat (nv B N (we B N (sk B N a)))) 0)) := R_tells (e + 5) b P5.1 P5.2.2.1 (by omega) 5 (Int32.ofNat (nv B N (we B N (sk B N a)))) 0
          have b6 : TR B N (sk B N (de B N (sk B N (we B N (sk B N a)))) + 1) (rkA t5 u 5 (Int32.ofNat (nv B N (we B N (sk B N a)))) 0) := TR_k b5 kk
          have P6 : RP m n (g + 1) (u + 1) (rkA t5 u 5 (Int32.ofNat (nv B N (we B N (sk B N a)))) 0) := ⟨P5.1, P5.2.1, rfl, P5.2.2.2.1, P5.2.2.2.2⟩
          have a6 : Kf [4, 7, 36] [46] τ (rkA t5 u 5 (Int32.ofNat (nv B N (we B N (sk B N a)))) 0) := ((a3.tr (a4.up (by decide) (by decide))).tr (a5.up (by decide) (by decide))).tr (kk.up (by decide) (by decide))
          obtain ⟨t7, a7, b7, P7, f7, p7, c7⟩ := zR (e + 7) b (rkA t5 u 5 (Int32.ofNat (nv B N (we B N (sk B N a)))) 0) _ (Int32.ofNat (wv B (sk B N a) (we B N (sk B N a) - sk B N a))) (Int32.ofNat (nv B N (we B N (sk B N a)))) (Int32.ofNat (3 * u)) (by omega) hsg1.1 rfl b6 P6
          have hs3 := sk_le (B := B) z2
          obtain ⟨t8, a8, b8, c8⟩ := R_sign_y hB hN (e + 5) b hs3 b7 P7.1 (c := 93) (by decide) (by decide) (by rw [sk_sk z2]; exact ⟨z3, z4⟩)
          rw [sk_sk z2] at b8
          have c8' : vcall (e + 7) m_R_sign [.ref 30, .int 93] (mS b t7) = some (.inl none, mS b t8) := c8
          have P8 : RP m n (g + 1) u3 t8 := RP_k P7 a8
          have g7 : ∀ t : rT, gFi (mS b t) 30 11 7 = some (t.1 7) := fun t => gFi_at mS_30 rfl
          have g34 : ∀ t : rT, gFr (mS b t) 30 11 34 = some 46 := fun t => gFr_at mS_30 rfl
          have h5' : (wF t8 7 (Int32.ofNat g)).1 5 = -1 := P8.1
          have h36' : (wF t8 7 (Int32.ofNat g)).1 36 = Int32.ofNat (3 * u3) := P8.2.2.1
          have a2' : Int32.ofNat (3 * u) + 2 = Int32.ofNat (3 * u + 2) := ii_add (3 * u) 2
          have r46 : ∀ x, t8.2 46 x = t7.2 46 x := fun x => by rw [a8.2 46 (by decide)]
          have r46b : ∀ x, x < 3 * (u + 1) → t7.2 46 x = upd (upd (upd (t5.2 46) (3 * u) 5) (3 * u + 1) (Int32.ofNat (nv B N (we B N (sk B N a))))) (3 * u + 2) 0 x := fun x hx => f7 x hx
          have r46c : t5.2 46 = τ.2 46 := by rw [a5.2 46 (by decide), a4.2 46 (by decide)]; show t2.2 46 = _; rw [a2.2 46 (by decide), a1.2 46 (by decide)]
          refine ⟨wA (wF t8 7 (Int32.ofNat g)) 46 (3 * u + 2) (Int32.ofNat (3 * u3)), (((a6.tr a7).tr (a8.up (by decide) (by decide))).wF (by decide) _).wA (by decide) _ _, ⟨b8.1, b8.2.1, b8.2.2⟩, ⟨P8.1, rfl, P8.2.2.1, P8.2.2.2.1, P8.2.2.2.2⟩, fun x hx => ?_, fun x h1 h2 => ?_, (vR rfl).trans ((B_R_readStep_0 _ _ _).trans ?_)⟩
          · show upd (t8.2 46) (3 * u + 2) _ x = _
            rw [upd_n _ _ (by omega), r46, r46b x (by omega), upd_n _ _ (by omega), upd_n _ _ (by omega), upd_n _ _ (by omega), r46c]
          · show upd (t8.2 46) (3 * u + 2) (Int32.ofNat (3 * u3)) x = Int32.ofNat (if x = 3 * u then 5 else if x = 3 * u + 1 then (nv B N (we B N (sk B N a))) else if x = 3 * u + 2 then 3 * u3 else Z x)
            by_cases x1 : x = 3 * u
            · rw [if_pos x1, upd_n _ _ (by omega), r46, r46b x (by omega), upd_n _ _ (by omega), upd_n _ _ (by omega), x1, upd_s]; rfl
            rw [if_neg x1]
            by_cases x2 : x = 3 * u + 1
            · rw [if_pos x2, upd_n _ _ (by omega), r46, r46b x (by omega), upd_n _ _ (by omega), x2, upd_s]
            rw [if_neg x2]
            by_cases x3 : x = 3 * u + 2
            · rw [if_pos x3, x3, upd_s]
            rw [if_neg x3, upd_n _ _ x3, r46]
            exact p7 x (by omega) h2
          · rw [c1, kC1_v, c2, kC1_v, if_pos rfl, R_of (e + 6) _ HW_33 (by decide), kC1_v, if_pos (by rw [word_eq hB hN hs HW_33 (by decide) (by decide)]; exact fun h => absurd (wq_x hq h) (by decide)), R_of (e + 6) _ HW_35 (by decide), kC1_v, if_pos (by rw [word_eq hB hN hs HW_35 (by decide) (by decide)]; exact fun h => absurd (wq_x hq h) (by decide)), R_of (e + 6) _ HW_36 (by decide), kC1_v, if_neg (by rw [word_eq hB hN hs HW_36 (by decide) (by decide)]; exact fun h => absurd (wq_x hq h) (by decide)), R_of (e + 6) _ HW_37 (by decide), kC1_v, if_pos (by rw [word_eq hB hN hs HW_37 (by decide) (by decide)]; exact fun h => absurd (wq_x hq h) (by decide)), R_of (e + 6) _ HW_38 (by decide), kC1_v, if_neg (by rw [word_eq hB hN hs HW_38 (by decide) (by decide)]; exact fun h => h hq), op1, kC0_v, c4', kC1_v, c5', kC0_v, g36, obs, P5.2.2.1, tl, kC0_v, c7, B_R_readStep_239, c8', kC0_v, g7, obs, P8.2.1, ii_s1]
            simp only [m_pF, obs]
            rw [R_fine1 (e + 6) b h5', kC1_v, if_neg (by decide), g34, obs, g36, obs, h36', a2', m_pI0 (n := 150) (by decide) (by decide) rfl (by decide) _ _ (by omega), obs, B_R_readStep_286]
            rfl
        rcases SGN hB hN b4_ (c := 59) (by decide) (by decide) with hsg2 | ⟨κ, p, hκ, hp, hX, hR⟩
        · have bb : Blk m n (fun j => if j = i then 5 else if j = i3 then 6 else K j) (fun j => if j = i then (nv B N (we B N (sk B N a))) else if j = i3 then i else F j) (fun j => if j = i then i3 else if j = i3 then 0 else Q j) (fun j => if j = 3 * u then 5 else if j = 3 * u + 1 then (nv B N (we B N (sk B N a))) else if j = 3 * u + 2 then 3 * u3 else Z j) (f + 1) i (i3 + 1) u u3 := by
            refine Or.inr (Or.inr ⟨i3, u3, by omega, by omega, ?_, ?_, ?_, ?_, ?_, ?_, ?_, ?_, Blk_c f _ _ _ _ (fun x h1 h2 => ⟨?_, ?_, ?_⟩) (fun x h1 h2 => ?_) z8, Blk_0 _ _ _⟩)
            · show (if _ then _ else _) = _; rw [if_pos rfl]
            · show (if _ then _ else _) ≤ _; rw [if_pos rfl]; exact v0_
            · show (if _ then _ else _) = _; rw [if_pos rfl]
            · show (if _ then _ else _) = _; rw [if_neg (by omega), if_pos rfl]
            · show (if _ then _ else _) = _; rw [if_neg (by omega), if_pos rfl]
            · show (if _ then _ else _) = _; rw [if_pos rfl]
            · show (if _ then _ else _) = (if _ then _ else _); rw [if_neg (by omega), if_pos rfl, if_pos rfl]
            · show (if _ then _ else _) = _; rw [if_neg (by omega), if_neg (by omega), if_pos rfl]
            · show _ = (if _ then _ else _); rw [if_neg (by omega), if_neg (by omega)]
            · show _ = (if _ then _ else _); rw [if_neg (by omega), if_neg (by omega)]
            · show _ = (if _ then _ else _); rw [if_neg (by omega), if_neg (by omega)]
            · show _ = (if _ then _ else _); rw [if_neg (by omega), if_neg (by omega), if_neg (by omega)]
          refine Or.inl ⟨sk B N (sk B N a3 + 1) + 1, i3 + 1, u3, _, _, _, _, f + 1, by omega, hsg2.1, by omega, by omega, by omega, bb, fun d M mm H L s r c l4 l5 hd D o T P hc => ?_, fun d b τ a0 hd h0 h0' T P => ?_⟩
          · obtain ⟨s5, r5, c5, e1, e2, e3, e4, e5, e6, l5', e7, -⟩ := hXE d M mm H L s r c l4 l5 hd D o T P hc
            obtain ⟨e, rfl⟩ : ∃ e, d = e + 4 := ⟨d - 4, by omega⟩
            obtain ⟨s6, f1, f2, f3⟩ := T_sign_y hB hN e (b := aL M mm (wkL M r5 ++ []) H) D b4_ e2 (by decide) hsg2
            have f3' : vcall (e + 4 - 1) m_Tp_sign [.ref 1, .int 59] (kQ M mm H L s5 r5 []) = some (.inl (some (.int 1)), kQ M mm H L s6 r5 []) := f3
            refine ⟨s6, r5, c5 + 1, .int 93, .int 1, e1.tr (f1.up (by decide) (by decide)), f2, XP_k e3 f1, e4, e5, by omega, e7.trans ?_⟩
            rw [f3', kC1_v, if_neg (by decide), kC1_v, if_pos (by decide)]
          · obtain ⟨t9, e1, e2, e3, e4, e5, e6⟩ := hRE d b τ a0 hd h0 h0' T P
            obtain ⟨e, rfl⟩ : ∃ e, d = e + 3 := ⟨d - 3, by omega⟩
            obtain ⟨t10, f1, f2, f3⟩ := R_sign_y hB hN e b b4_ e2 e3.1 (by decide) (by decide) hsg2
            have f3' : vcall (e + 3 - 1) m_R_sign [.ref 30, .int 59] (mS b t9) = some (.inl none, mS b t10) := f3
            refine ⟨t10, e1.tr (f1.up (by decide) (by decide)), f2, RP_k e3 f1, fun x hx => by rw [f1.2 46 (by decide)]; exact e4 x hx, fun x h1 h2 => by rw [f1.2 46 (by decide)]; exact e5 x h1 h2, e6.trans ?_⟩
            rw [f3', kC0_v]
        · refine Or.inr ⟨κ, p, hκ, hp, fun d M mm H L s r c l4 l5 hd D o T P hc => ?_, fun d b τ a0 hd h0 h0' T P => ?_⟩
          · obtain ⟨s5, r5, c5, e1, e2, e3, e4, e5, e6, l5', e7, -⟩ := hXE d M mm H L s r c l4 l5 hd D o T P hc
            obtain ⟨e, rfl⟩ : ∃ e, d = e + 4 := ⟨d - 4, by omega⟩
            obtain ⟨s6, f1, f2, f3⟩ := hX e (aL M mm (wkL M r5 ++ []) H) L s5 D e2
            have f3' : vcall (e + 4 - 1) m_Tp_sign [.ref 1, .int 59] (kQ M mm H L s5 r5 []) = some (.inl (some (.int 0)), kQ M mm H L s6 r5 []) := f3
            refine ⟨s6, r5, (e1.up (by decide) (by decide)).tr (f1.up (by decide) (by decide)), f2, e7.trans ?_⟩
            rw [f3', kC1_v, if_pos rfl, kC1_v, if_neg (fun h => h rfl)]
          · obtain ⟨t9, e1, e2, e3, e4, e5, e6⟩ := hRE d b τ a0 hd h0 h0' T P
            obtain ⟨e, rfl⟩ : ∃ e, d = e + 3 := ⟨d - 3, by omega⟩
            obtain ⟨t10, f1, f2, f3⟩ := hR e b t9 e2 e3.1
            have f3' : vcall (e + 3 - 1) m_R_sign [.ref 30, .int 59] (mS b t9) = some (.inl none, mS b t10) := f3
            refine ⟨t10, (e1.up (by decide) (by decide)).tr (f1.up (by decide) (by decide)), f2, e6.trans ?_⟩
            rw [f3', kC0_v]
      · refine Or.inr ⟨κ, p, hκ, hp, fun d M mm H L s r c l4 l5 hd D o T P hc => ?_, fun d b τ a0 hd h0 h0' T P => ?_⟩
        · skip
          obtain ⟨e, rfl⟩ : ∃ e, d = e + 8 := ⟨d - 8, by omega⟩
          obtain ⟨s1, k1, k2, k3, k4, k5⟩ := X_wkW hB hN h150 e (M := M) (mm := mm) (H := H) (r := r) (i := i) D o ha T P hg hc pc1 pc2 hw l4 l5
          have P1 := XP_k P k1
          obtain ⟨x15, y15, z15, e15⟩ := T_is hB hN (e + 5) (b := aL M mm (wkL M r ++ []) H) D k2 k3 he (by omega) HW_15
          have e15' : vcall (e + 7) m_Tp_wordIs [.ref 1, .ref (pSB + 15)] (kQ M mm H L s1 r []) = some (.inl (some (.int x15)), kQ M mm H L s1 r []) := e15
          rw [z15 (fun h => absurd (wq_x hq h) (by decide))] at e15'
          obtain ⟨x16, y16, z16, e16⟩ := T_is hB hN (e + 5) (b := aL M mm (wkL M r ++ []) H) D k2 k3 he (by omega) HW_16
          have e16' : vcall (e + 7) m_Tp_wordIs [.ref 1, .ref (pSB + 16)] (kQ M mm H L s1 r []) = some (.inl (some (.int x16)), kQ M mm H L s1 r []) := e16
          rw [z16 (fun h => absurd (wq_x hq h) (by decide))] at e16'
          obtain ⟨x17, y17, z17, e17⟩ := T_is hB hN (e + 5) (b := aL M mm (wkL M r ++ []) H) D k2 k3 he (by omega) HW_17
          have e17' : vcall (e + 7) m_Tp_wordIs [.ref 1, .ref (pSB + 17)] (kQ M mm H L s1 r []) = some (.inl (some (.int x17)), kQ M mm H L s1 r []) := e17
          rw [z17 (fun h => absurd (wq_x hq h) (by decide))] at e17'
          obtain ⟨x18, y18, z18, e18⟩ := T_is hB hN (e + 5) (b := aL M mm (wkL M r ++ []) H) D k2 k3 he (by omega) HW_18
          have e18' : vcall (e + 7) m_Tp_wordIs [.ref 1, .ref (pSB + 18)] (kQ M mm H L s1 r []) = some (.inl (some (.int x18)), kQ M mm H L s1 r []) := e18
          rw [z18 (fun h => absurd (wq_x hq h) (by decide))] at e18'
          obtain ⟨x19, y19, z19, e19⟩ := T_is hB hN (e + 5) (b := aL M mm (wkL M r ++ []) H) D k2 k3 he (by omega) HW_19
          have e19' : vcall (e + 7) m_Tp_wordIs [.ref 1, .ref (pSB + 19)] (kQ M mm H L s1 r []) = some (.inl (some (.int x19)), kQ M mm H L s1 r []) := e19
          rw [z19 (fun h => absurd (wq_x hq h) (by decide))] at e19'
          obtain ⟨x20, y20, z20, e20⟩ := T_is hB hN (e + 5) (b := aL M mm (wkL M r ++ []) H) D k2 k3 he (by omega) HW_20
          have e20' : vcall (e + 7) m_Tp_wordIs [.ref 1, .ref (pSB + 20)] (kQ M mm H L s1 r []) = some (.inl (some (.int x20)), kQ M mm H L s1 r []) := e20
          rw [y20 hq] at e20'
          have g5 : gFi (kQ M mm H L s1 r []) M 9 5 = some (Int32.ofNat g) := P.2.2.1 ▸ (kQ_gF o).1
          obtain ⟨s2, p0, q0, r0, w0⟩ := T_num_y hB hN (e + 3) (b := aL M mm (wkL M r ++ []) H) D he k2 n0.1 n0.2.1 n0.2.2
          have w0' : vcall (e + 6) m_Tp_readNumber [.ref 1, .int 0, .int 60] (kQ M mm H L s1 r []) = some (.inl (some (.int (Int32.ofNat (nv B N (we B N (sk B N a)))))), kQ M mm H L s2 r []) := w0
          obtain ⟨s3, p1, q1, w1⟩ := T_sign_y hB hN (e + 3) (b := aL M mm (wkL M r ++ []) H) D b1_ q0 (by decide) hsg1
          have w1' : vcall (e + 6) m_Tp_sign [.ref 1, .int 91] (kQ M mm H L s2 r []) = some (.inl (some (.int 1)), kQ M mm H L s3 r []) := w1
          have P3 := XP_k (XP_k P1 p0) p1
          have e6 : (wF (wA r 5 g (Int32.ofNat i)) 5 (Int32.ofNat (g + 1))).1 6 = Int32.ofNat i := P.2.2.2
          have e5 : (wA r 5 g (Int32.ofNat i)).1 5 = Int32.ofNat g := P.2.2.1
          have ra : vcall (e + 7) m_Wk_readAgain [.ref M, .ref 1] (kQ M mm H L s1 r []) = some (.inl (some (.int 1)), kQ M mm H L s3 (wkA (wF (wA r 5 g (Int32.ofNat i)) 5 (Int32.ofNat (g + 1))) i 5 (Int32.ofNat (nv B N (we B N (sk B N a)))) 0) []) := by
            refine (kQ_v o rfl).trans ((B_Wk_readAgain_0 _ _ _ _).trans ?_)
            rw [g5, obs, (kQ_gR o).2.2.2.2, obs, (kQ_gN o).2.2.2.2, obs, if_pos l6, w0', kC1_v, if_neg (by rw [ii_n1 (by omega)]; exact id), w1', kC1_v, if_pos (by decide), (kQ_gR o).2.2.2.2, obs, (kQ_gF o).1, obs, P.2.2.1, (kQ_gF o).2.1, obs, P.2.2.2, (kQ_pI o _).2.2.2.2 (by omega), obs, (kQ_gF o).1, obs, e5, ii_1, (kQ_pF o _).1, obs, X_wadd (e + 5) o e6 (by omega), kC1_v, if_pos (by decide)]
          have q3 : TX B N (sk B N (de B N (sk B N (we B N (sk B N a)))) + 1) s3 := q1
          have PB : XP m n (g + 1) (i + 1) s3 (wkA (wF (wA r 5 g (Int32.ofNat i)) 5 (Int32.ofNat (g + 1))) i 5 (Int32.ofNat (nv B N (we B N (sk B N a)))) 0) := ⟨P3.1, P3.2.1, rfl, rfl⟩
          have go1 := k5 _ ((kQ_v o rfl).trans ((B_Wk_readStep_0 _ _ _ _ _).trans (by rw [e15', kC1_v, if_pos rfl, e16', kC1_v, if_pos rfl, e17', kC1_v, if_pos rfl, e18', kC1_v, if_pos rfl, e19', kC1_v, if_pos rfl, e20', kC1_v, if_neg (by decide), ra, kC1_v, if_pos (by decide)])))
          obtain ⟨s4, r4, d1, d2, d3⟩ := zX (e + 8) M mm H L s3 _ (c + 1) (.int (pkX B N (sk B N a))) (.int 1) (by omega) D o q3 PB (by omega)
          exact ⟨s4, r4, (((k1.tr p0).tr (p1.up (by decide) (by decide))).up (by decide) (by decide)).tr d1, d2, go1.trans d3⟩
        · skip
          obtain ⟨e, rfl⟩ : ∃ e, d = e + 8 := ⟨d - 8, by omega⟩
          obtain ⟨t1, a1, b1, c1⟩ := R_word hB hN (e + 5) b h0 T
          rw [h0'] at b1 c1
          obtain ⟨t2, xc, a2, b2, yc, zc, c2⟩ := R_stands hB hN (e + 5) b hs b1 HW_34
          rw [ess] at b2 yc zc
          have P2 : RP m n g u t2 := RP_k (RP_k P a1) a2
          rw [zc (fun h => absurd (wq_x hq h) (by decide))] at c2
          have op1 : vcall (e + 7) m_R_opensOne [.ref 30, .int 5] (mS b t2) = some (.inl none, mS b (wF (wF t2 4 (Int32.ofNat (sk B N a + 5))) 7 (Int32.ofNat (g + 1)))) := R_open (e + 5) b (k := 5) P2.1 b2.2.1 P2.2.1 (by omega)
          have b3 : TR B N (we B N (sk B N a)) (wF (wF t2 4 (Int32.ofNat (sk B N a + 5))) 7 (Int32.ofNat (g + 1))) := ⟨b2.1, by rw [← hwe]; rfl, b2.2.2⟩
          have P3 : RP m n (g + 1) u (wF (wF t2 4 (Int32.ofNat (sk B N a + 5))) 7 (Int32.ofNat (g + 1))) := ⟨P2.1, rfl, P2.2.2.1, P2.2.2.2.1, P2.2.2.2.2⟩
          have a3 : Kf [4, 7, 36] [46] τ (wF (wF t2 4 (Int32.ofNat (sk B N a + 5))) 7 (Int32.ofNat (g + 1))) := (((a1.tr a2).up (by decide) (by decide)).wF (by decide) _).wF (by decide) _
          have g36 : ∀ t : rT, gFi (mS b t) 30 11 36 = some (t.1 36) := fun t => gFi_at mS_30 rfl
          obtain ⟨t4, a4, b4, c4⟩ := R_num_y hB hN (e + 4) b he b3 P3.1 n0.1 (by decide) n0.2.1 n0.2.2
          have c4' : vcall (e + 7) m_R_readNumber [.ref 30, .int 0, .int 60] (mS b (wF (wF t2 4 (Int32.ofNat (sk B N a + 5))) 7 (Int32.ofNat (g + 1)))) = _ := c4
          have P4 : RP m n (g + 1) u t4 := RP_k P3 a4
          obtain ⟨t5, a5, b5, c5⟩ := R_sign_y hB hN (e + 5) b b1_ b4 P4.1 (by decide) (by decide) hsg1
          have c5' : vcall (e + 7) m_R_sign [.ref 30, .int 91] (mS b t4) = some (.inl none, mS b t5) := c5
          have P5 : RP m n (g + 1) u t5 := RP_k P4 a5
          have kk := rkA_k t5 u 5 (Int32.ofNat (nv B N (we B N (sk B N a)))) 0
          have tl : vcall (e + 7) m_R_tellsStep [.ref 30, .int 5, .int (Int32.ofNat (nv B N (we B N (sk B N a)))), .int 0] (mS b t5) = some (.inl none, mS b (rkA t5 u 5 (Int32.ofNat (nv B N (we B N (sk B N a)))) 0)) := R_tells (e + 5) b P5.1 P5.2.2.1 (by omega) 5 (Int32.ofNat (nv B N (we B N (sk B N a)))) 0
          have b6 : TR B N (sk B N (de B N (sk B N (we B N (sk B N a)))) + 1) (rkA t5 u 5 (Int32.ofNat (nv B N (we B N (sk B N a)))) 0) := TR_k b5 kk
          have P6 : RP m n (g + 1) (u + 1) (rkA t5 u 5 (Int32.ofNat (nv B N (we B N (sk B N a)))) 0) := ⟨P5.1, P5.2.1, rfl, P5.2.2.2.1, P5.2.2.2.2⟩
          have a6 : Kf [4, 7, 36] [46] τ (rkA t5 u 5 (Int32.ofNat (nv B N (we B N (sk B N a)))) 0) := ((a3.tr (a4.up (by decide) (by decide))).tr (a5.up (by decide) (by decide))).tr (kk.up (by decide) (by decide))
          obtain ⟨t7, a7, f7, c7⟩ := zR (e + 7) b (rkA t5 u 5 (Int32.ofNat (nv B N (we B N (sk B N a)))) 0) _ (Int32.ofNat (wv B (sk B N a) (we B N (sk B N a) - sk B N a))) (Int32.ofNat (nv B N (we B N (sk B N a)))) (Int32.ofNat (3 * u)) (by omega) hsg1.1 rfl b6 P6
          refine ⟨wF t7 7 (t7.1 7 - 1), ((a6.up (by decide) (by decide)).tr a7).wF (by decide) _, FR_7 f7 _, (vR rfl).trans ((B_R_readStep_0 _ _ _).trans ?_)⟩
          rw [c1, kC1_v, c2, kC1_v, if_pos rfl, R_of (e + 6) _ HW_33 (by decide), kC1_v, if_pos (by rw [word_eq hB hN hs HW_33 (by decide) (by decide)]; exact fun h => absurd (wq_x hq h) (by decide)), R_of (e + 6) _ HW_35 (by decide), kC1_v, if_pos (by rw [word_eq hB hN hs HW_35 (by decide) (by decide)]; exact fun h => absurd (wq_x hq h) (by decide)), R_of (e + 6) _ HW_36 (by decide), kC1_v, if_neg (by rw [word_eq hB hN hs HW_36 (by decide) (by decide)]; exact fun h => absurd (wq_x hq h) (by decide)), R_of (e + 6) _ HW_37 (by decide), kC1_v, if_pos (by rw [word_eq hB hN hs HW_37 (by decide) (by decide)]; exact fun h => absurd (wq_x hq h) (by decide)), R_of (e + 6) _ HW_38 (by decide), kC1_v, if_neg (by rw [word_eq hB hN hs HW_38 (by decide) (by decide)]; exact fun h => h hq), op1, kC0_v, c4', kC1_v, c5', kC0_v, g36, obs, P5.2.2.1, tl, kC0_v, c7, R_239b (e + 4) b (FR_b f7 hp)]
    · refine Or.inr ⟨κ, p, hκ, hp, fun d M mm H L s r c l4 l5 hd D o T P hc => ?_, fun d b τ a0 hd h0 h0' T P => ?_⟩
      · skip
        obtain ⟨e, rfl⟩ : ∃ e, d = e + 8 := ⟨d - 8, by omega⟩
        obtain ⟨s1, k1, k2, k3, k4, k5⟩ := X_wkW hB hN h150 e (M := M) (mm := mm) (H := H) (r := r) (i := i) D o ha T P hg hc pc1 pc2 hw l4 l5
        have P1 := XP_k P k1
        obtain ⟨x15, y15, z15, e15⟩ := T_is hB hN (e + 5) (b := aL M mm (wkL M r ++ []) H) D k2 k3 he (by omega) HW_15
        have e15' : vcall (e + 7) m_Tp_wordIs [.ref 1, .ref (pSB + 15)] (kQ M mm H L s1 r []) = some (.inl (some (.int x15)), kQ M mm H L s1 r []) := e15
        rw [z15 (fun h => absurd (wq_x hq h) (by decide))] at e15'
        obtain ⟨x16, y16, z16, e16⟩ := T_is hB hN (e + 5) (b := aL M mm (wkL M r ++ []) H) D k2 k3 he (by omega) HW_16
        have e16' : vcall (e + 7) m_Tp_wordIs [.ref 1, .ref (pSB + 16)] (kQ M mm H L s1 r []) = some (.inl (some (.int x16)), kQ M mm H L s1 r []) := e16
        rw [z16 (fun h => absurd (wq_x hq h) (by decide))] at e16'
        obtain ⟨x17, y17, z17, e17⟩ := T_is hB hN (e + 5) (b := aL M mm (wkL M r ++ []) H) D k2 k3 he (by omega) HW_17
        have e17' : vcall (e + 7) m_Tp_wordIs [.ref 1, .ref (pSB + 17)] (kQ M mm H L s1 r []) = some (.inl (some (.int x17)), kQ M mm H L s1 r []) := e17
        rw [z17 (fun h => absurd (wq_x hq h) (by decide))] at e17'
        obtain ⟨x18, y18, z18, e18⟩ := T_is hB hN (e + 5) (b := aL M mm (wkL M r ++ []) H) D k2 k3 he (by omega) HW_18
        have e18' : vcall (e + 7) m_Tp_wordIs [.ref 1, .ref (pSB + 18)] (kQ M mm H L s1 r []) = some (.inl (some (.int x18)), kQ M mm H L s1 r []) := e18
        rw [z18 (fun h => absurd (wq_x hq h) (by decide))] at e18'
        obtain ⟨x19, y19, z19, e19⟩ := T_is hB hN (e + 5) (b := aL M mm (wkL M r ++ []) H) D k2 k3 he (by omega) HW_19
        have e19' : vcall (e + 7) m_Tp_wordIs [.ref 1, .ref (pSB + 19)] (kQ M mm H L s1 r []) = some (.inl (some (.int x19)), kQ M mm H L s1 r []) := e19
        rw [z19 (fun h => absurd (wq_x hq h) (by decide))] at e19'
        obtain ⟨x20, y20, z20, e20⟩ := T_is hB hN (e + 5) (b := aL M mm (wkL M r ++ []) H) D k2 k3 he (by omega) HW_20
        have e20' : vcall (e + 7) m_Tp_wordIs [.ref 1, .ref (pSB + 20)] (kQ M mm H L s1 r []) = some (.inl (some (.int x20)), kQ M mm H L s1 r []) := e20
        rw [y20 hq] at e20'
        have g5 : gFi (kQ M mm H L s1 r []) M 9 5 = some (Int32.ofNat g) := P.2.2.1 ▸ (kQ_gF o).1
        obtain ⟨s2, p0, q0, r0, w0⟩ := T_num_y hB hN (e + 3) (b := aL M mm (wkL M r ++ []) H) D he k2 n0.1 n0.2.1 n0.2.2
        have w0' : vcall (e + 6) m_Tp_readNumber [.ref 1, .int 0, .int 60] (kQ M mm H L s1 r []) = some (.inl (some (.int (Int32.ofNat (nv B N (we B N (sk B N a)))))), kQ M mm H L s2 r []) := w0
        obtain ⟨s3, p1, q1, w1⟩ := hX (e + 3) (aL M mm (wkL M r ++ []) H) L s2 D q0
        have w1' : vcall (e + 6) m_Tp_sign [.ref 1, .int 91] (kQ M mm H L s2 r []) = some (.inl (some (.int 0)), kQ M mm H L s3 r []) := w1
        have ra : vcall (e + 7) m_Wk_readAgain [.ref M, .ref 1] (kQ M mm H L s1 r []) = some (.inl (some (.int 0)), kQ M mm H L s3 r []) := by
          refine (kQ_v o rfl).trans ((B_Wk_readAgain_0 _ _ _ _).trans ?_)
          rw [g5, obs, (kQ_gR o).2.2.2.2, obs, (kQ_gN o).2.2.2.2, obs, if_pos l6, w0', kC1_v, if_neg (by rw [ii_n1 (by omega)]; exact id), w1', kC1_v, if_neg (fun h => h rfl)]
        refine ⟨s3, r, ((k1.tr p0).up (by decide) (by decide)).tr (p1.up (by decide) (by decide)), q1, k4 _ ((kQ_v o rfl).trans ((B_Wk_readStep_0 _ _ _ _ _).trans ?_))⟩
        rw [e15', kC1_v, if_pos rfl, e16', kC1_v, if_pos rfl, e17', kC1_v, if_pos rfl, e18', kC1_v, if_pos rfl, e19', kC1_v, if_pos rfl, e20', kC1_v, if_neg (by decide), ra, kC1_v, if_pos (by decide)]
      · skip
        obtain ⟨e, rfl⟩ : ∃ e, d = e + 8 := ⟨d - 8, by omega⟩
        obtain ⟨t1, a1, b1, c1⟩ := R_word hB hN (e + 5) b h0 T
        rw [h0'] at b1 c1
        obtain ⟨t2, xc, a2, b2, yc, zc, c2⟩ := R_stands hB hN (e + 5) b hs b1 HW_34
        rw [ess] at b2 yc zc
        have P2 : RP m n g u t2 := RP_k (RP_k P a1) a2
        rw [zc (fun h => absurd (wq_x hq h) (by decide))] at c2
        have op1 : vcall (e + 7) m_R_opensOne [.ref 30, .int 5] (mS b t2) = some (.inl none, mS b (wF (wF t2 4 (Int32.ofNat (sk B N a + 5))) 7 (Int32.ofNat (g + 1)))) := R_open (e + 5) b (k := 5) P2.1 b2.2.1 P2.2.1 (by omega)
        have b3 : TR B N (we B N (sk B N a)) (wF (wF t2 4 (Int32.ofNat (sk B N a + 5))) 7 (Int32.ofNat (g + 1))) := ⟨b2.1, by rw [← hwe]; rfl, b2.2.2⟩
        have P3 : RP m n (g + 1) u (wF (wF t2 4 (Int32.ofNat (sk B N a + 5))) 7 (Int32.ofNat (g + 1))) := ⟨P2.1, rfl, P2.2.2.1, P2.2.2.2.1, P2.2.2.2.2⟩
        have a3 : Kf [4, 7, 36] [46] τ (wF (wF t2 4 (Int32.ofNat (sk B N a + 5))) 7 (Int32.ofNat (g + 1))) := (((a1.tr a2).up (by decide) (by decide)).wF (by decide) _).wF (by decide) _
        have g36 : ∀ t : rT, gFi (mS b t) 30 11 36 = some (t.1 36) := fun t => gFi_at mS_30 rfl
        obtain ⟨t4, a4, b4, c4⟩ := R_num_y hB hN (e + 4) b he b3 P3.1 n0.1 (by decide) n0.2.1 n0.2.2
        have c4' : vcall (e + 7) m_R_readNumber [.ref 30, .int 0, .int 60] (mS b (wF (wF t2 4 (Int32.ofNat (sk B N a + 5))) 7 (Int32.ofNat (g + 1)))) = _ := c4
        have P4 : RP m n (g + 1) u t4 := RP_k P3 a4
        obtain ⟨t5, a5, b5, c5⟩ := hR (e + 5) b t4 b4 P4.1
        have c5' : vcall (e + 7) m_R_sign [.ref 30, .int 91] (mS b t4) = some (.inl none, mS b t5) := c5
        have hb9 := FR_b b5 hp
        refine ⟨wF t5 7 (t5.1 7 - 1), (((a3.up (by decide) (by decide)).tr (a4.up (by decide) (by decide))).tr (a5.up (by decide) (by decide))).wF (by decide) _, FR_7 b5 _, (vR rfl).trans ((B_R_readStep_0 _ _ _).trans ?_)⟩
        rw [c1, kC1_v, c2, kC1_v, if_pos rfl, R_of (e + 6) _ HW_33 (by decide), kC1_v, if_pos (by rw [word_eq hB hN hs HW_33 (by decide) (by decide)]; exact fun h => absurd (wq_x hq h) (by decide)), R_of (e + 6) _ HW_35 (by decide), kC1_v, if_pos (by rw [word_eq hB hN hs HW_35 (by decide) (by decide)]; exact fun h => absurd (wq_x hq h) (by decide)), R_of (e + 6) _ HW_36 (by decide), kC1_v, if_neg (by rw [word_eq hB hN hs HW_36 (by decide) (by decide)]; exact fun h => absurd (wq_x hq h) (by decide)), R_of (e + 6) _ HW_37 (by decide), kC1_v, if_pos (by rw [word_eq hB hN hs HW_37 (by decide) (by decide)]; exact fun h => absurd (wq_x hq h) (by decide)), R_of (e + 6) _ HW_38 (by decide), kC1_v, if_neg (by rw [word_eq hB hN hs HW_38 (by decide) (by decide)]; exact fun h => h hq), op1, kC0_v, c4', kC1_v, c5', kC0_v, g36, obs, R_tells_b (e + 5) b hb9, kC0_v, R_216b (e + 4) b hb9, R_239b (e + 4) b hb9]
  · refine Or.inr ⟨κ, p, hκ, hp, fun d M mm H L s r c l4 l5 hd D o T P hc => ?_, fun d b τ a0 hd h0 h0' T P => ?_⟩
    · skip
      obtain ⟨e, rfl⟩ : ∃ e, d = e + 8 := ⟨d - 8, by omega⟩
      obtain ⟨s1, k1, k2, k3, k4, k5⟩ := X_wkW hB hN h150 e (M := M) (mm := mm) (H := H) (r := r) (i := i) D o ha T P hg hc pc1 pc2 hw l4 l5
      have P1 := XP_k P k1
      obtain ⟨x15, y15, z15, e15⟩ := T_is hB hN (e + 5) (b := aL M mm (wkL M r ++ []) H) D k2 k3 he (by omega) HW_15
      have e15' : vcall (e + 7) m_Tp_wordIs [.ref 1, .ref (pSB + 15)] (kQ M mm H L s1 r []) = some (.inl (some (.int x15)), kQ M mm H L s1 r []) := e15
      rw [z15 (fun h => absurd (wq_x hq h) (by decide))] at e15'
      obtain ⟨x16, y16, z16, e16⟩ := T_is hB hN (e + 5) (b := aL M mm (wkL M r ++ []) H) D k2 k3 he (by omega) HW_16
      have e16' : vcall (e + 7) m_Tp_wordIs [.ref 1, .ref (pSB + 16)] (kQ M mm H L s1 r []) = some (.inl (some (.int x16)), kQ M mm H L s1 r []) := e16
      rw [z16 (fun h => absurd (wq_x hq h) (by decide))] at e16'
      obtain ⟨x17, y17, z17, e17⟩ := T_is hB hN (e + 5) (b := aL M mm (wkL M r ++ []) H) D k2 k3 he (by omega) HW_17
      have e17' : vcall (e + 7) m_Tp_wordIs [.ref 1, .ref (pSB + 17)] (kQ M mm H L s1 r []) = some (.inl (some (.int x17)), kQ M mm H L s1 r []) := e17
      rw [z17 (fun h => absurd (wq_x hq h) (by decide))] at e17'
      obtain ⟨x18, y18, z18, e18⟩ := T_is hB hN (e + 5) (b := aL M mm (wkL M r ++ []) H) D k2 k3 he (by omega) HW_18
      have e18' : vcall (e + 7) m_Tp_wordIs [.ref 1, .ref (pSB + 18)] (kQ M mm H L s1 r []) = some (.inl (some (.int x18)), kQ M mm H L s1 r []) := e18
      rw [z18 (fun h => absurd (wq_x hq h) (by decide))] at e18'
      obtain ⟨x19, y19, z19, e19⟩ := T_is hB hN (e + 5) (b := aL M mm (wkL M r ++ []) H) D k2 k3 he (by omega) HW_19
      have e19' : vcall (e + 7) m_Tp_wordIs [.ref 1, .ref (pSB + 19)] (kQ M mm H L s1 r []) = some (.inl (some (.int x19)), kQ M mm H L s1 r []) := e19
      rw [z19 (fun h => absurd (wq_x hq h) (by decide))] at e19'
      obtain ⟨x20, y20, z20, e20⟩ := T_is hB hN (e + 5) (b := aL M mm (wkL M r ++ []) H) D k2 k3 he (by omega) HW_20
      have e20' : vcall (e + 7) m_Tp_wordIs [.ref 1, .ref (pSB + 20)] (kQ M mm H L s1 r []) = some (.inl (some (.int x20)), kQ M mm H L s1 r []) := e20
      rw [y20 hq] at e20'
      have g5 : gFi (kQ M mm H L s1 r []) M 9 5 = some (Int32.ofNat g) := P.2.2.1 ▸ (kQ_gF o).1
      obtain ⟨s3, p1, q1, w1⟩ := hX (e + 3) (aL M mm (wkL M r ++ []) H) L s1 D k2
      have w1' : vcall (e + 6) m_Tp_readNumber [.ref 1, .int 0, .int 60] (kQ M mm H L s1 r []) = some (.inl (some (.int (-1))), kQ M mm H L s3 r []) := w1
      have ra : vcall (e + 7) m_Wk_readAgain [.ref M, .ref 1] (kQ M mm H L s1 r []) = some (.inl (some (.int 0)), kQ M mm H L s3 r []) := by
        refine (kQ_v o rfl).trans ((B_Wk_readAgain_0 _ _ _ _).trans ?_)
        rw [g5, obs, (kQ_gR o).2.2.2.2, obs, (kQ_gN o).2.2.2.2, obs, if_pos l6, w1', kC1_v, if_pos rfl]
      refine ⟨s3, r, (k1.up (by decide) (by decide)).tr (p1.up (by decide) (by decide)), q1, k4 _ ((kQ_v o rfl).trans ((B_Wk_readStep_0 _ _ _ _ _).trans ?_))⟩
      rw [e15', kC1_v, if_pos rfl, e16', kC1_v, if_pos rfl, e17', kC1_v, if_pos rfl, e18', kC1_v, if_pos rfl, e19', kC1_v, if_pos rfl, e20', kC1_v, if_neg (by decide), ra, kC1_v, if_pos (by decide)]
    · skip
      obtain ⟨e, rfl⟩ : ∃ e, d = e + 8 := ⟨d - 8, by omega⟩
      obtain ⟨t1, a1, b1, c1⟩ := R_word hB hN (e + 5) b h0 T
      rw [h0'] at b1 c1
      obtain ⟨t2, xc, a2, b2, yc, zc, c2⟩ := R_stands hB hN (e + 5) b hs b1 HW_34
      rw [ess] at b2 yc zc
      have P2 : RP m n g u t2 := RP_k (RP_k P a1) a2
      rw [zc (fun h => absurd (wq_x hq h) (by decide))] at c2
      have op1 : vcall (e + 7) m_R_opensOne [.ref 30, .int 5] (mS b t2) = some (.inl none, mS b (wF (wF t2 4 (Int32.ofNat (sk B N a + 5))) 7 (Int32.ofNat (g + 1)))) := R_open (e + 5) b (k := 5) P2.1 b2.2.1 P2.2.1 (by omega)
      have b3 : TR B N (we B N (sk B N a)) (wF (wF t2 4 (Int32.ofNat (sk B N a + 5))) 7 (Int32.ofNat (g + 1))) := ⟨b2.1, by rw [← hwe]; rfl, b2.2.2⟩
      have P3 : RP m n (g + 1) u (wF (wF t2 4 (Int32.ofNat (sk B N a + 5))) 7 (Int32.ofNat (g + 1))) := ⟨P2.1, rfl, P2.2.2.1, P2.2.2.2.1, P2.2.2.2.2⟩
      have a3 : Kf [4, 7, 36] [46] τ (wF (wF t2 4 (Int32.ofNat (sk B N a + 5))) 7 (Int32.ofNat (g + 1))) := (((a1.tr a2).up (by decide) (by decide)).wF (by decide) _).wF (by decide) _
      have g36 : ∀ t : rT, gFi (mS b t) 30 11 36 = some (t.1 36) := fun t => gFi_at mS_30 rfl
      obtain ⟨t5, a5, b5, c5⟩ := hR (e + 4) b (wF (wF t2 4 (Int32.ofNat (sk B N a + 5))) 7 (Int32.ofNat (g + 1))) b3 P3.1
      have c5' : vcall (e + 7) m_R_readNumber [.ref 30, .int 0, .int 60] (mS b (wF (wF t2 4 (Int32.ofNat (sk B N a + 5))) 7 (Int32.ofNat (g + 1)))) = _ := c5
      have hb9 := FR_b b5 hp
      refine ⟨wF t5 7 (t5.1 7 - 1), ((a3.up (by decide) (by decide)).tr (a5.up (by decide) (by decide))).wF (by decide) _, FR_7 b5 _, (vR rfl).trans ((B_R_readStep_0 _ _ _).trans ?_)⟩
      rw [c1, kC1_v, c2, kC1_v, if_pos rfl, R_of (e + 6) _ HW_33 (by decide), kC1_v, if_pos (by rw [word_eq hB hN hs HW_33 (by decide) (by decide)]; exact fun h => absurd (wq_x hq h) (by decide)), R_of (e + 6) _ HW_35 (by decide), kC1_v, if_pos (by rw [word_eq hB hN hs HW_35 (by decide) (by decide)]; exact fun h => absurd (wq_x hq h) (by decide)), R_of (e + 6) _ HW_36 (by decide), kC1_v, if_neg (by rw [word_eq hB hN hs HW_36 (by decide) (by decide)]; exact fun h => absurd (wq_x hq h) (by decide)), R_of (e + 6) _ HW_37 (by decide), kC1_v, if_pos (by rw [word_eq hB hN hs HW_37 (by decide) (by decide)]; exact fun h => absurd (wq_x hq h) (by decide)), R_of (e + 6) _ HW_38 (by decide), kC1_v, if_neg (by rw [word_eq hB hN hs HW_38 (by decide) (by decide)]; exact fun h => h hq), op1, kC0_v, c5', kC1_v, R_sign_b (e + 5) b hb9, kC0_v, g36, obs, R_tells_b (e + 5) b hb9, kC0_v, R_216b (e + 4) b hb9, R_239b (e + 4) b hb9]
