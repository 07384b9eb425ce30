/-! CALLS that ask: gains, would, darkest, stillest, hungriest, brightest, bright, empty, crowd, lead, absent, stains -/
def gainV (l : List Nat) (n : Nat) (dk v : Nat → Int32) (p t : Nat) : Int32 := if v (8 + p) = -1 then -100 else if sOn n v (Int32.ofNat t) = -1 then mkv l (v t) (dk p) 0 (v (20 + p)) (Int32.ofNat t) (Int32.ofNat p) (onesI (sSits n v) - 1) (v 75) - mkB l n dk v p else -100
theorem Y_gains (d : Nat) {b : pS} {L : xA} {s : rT} {m n : Nat} {l : List Nat} (D : Dj L) (C : Cn s m n) (xl : xLaw s l) (K : Sok m n (s.2 0)) (p t : Nat) (hp : p < n) (ht : t < m) : ∃ s', Ex0 s s' ∧ vcall (d + 6) m_Y_gains [.ref 0, .int (Int32.ofNat p), .int (Int32.ofNat t)] (xS b L s) = some (.inl (some (.int (gainV l n (s.2 12) (s.2 0) p t))), xS b L s') := by
  have C' := C
  obtain ⟨hm, h8, hn, h6⟩ := C'
  unfold gainV
  by_cases h : s.2 0 (8 + p) = -1
  · refine ⟨s, Kf.rf _ _ s, (vY D rfl).trans ((B_Y_gains_0 _ _ _ _ _).trans ?_)⟩
    simp (disch := omega) only [x0_gF D, sn_gF (SN_p D), sn_gI (SN_p D), xu_gF D, xu_gI D, xk_gF D, xk_gI D, x1_gF D, pl_ix, ii_m1, ii_s1, obs, wF_1, wF_2, wA_1, wA_2, wR_1, wR_2, Nat.reduceEqDiff, Nat.reduceAdd, Nat.reduceMul, if_true, if_false, ite_true, ite_false, ii_la, ii_al, ii_lm, ii_ml, ii_add, ii_mul, ii_1, ii_le, ii_lt, ii_c1, ii_c2, ii_c3, ii_c4, ii_c5, ii_n1, ii_nn, kC0_v, kC1_v, kC2_v, kC3_v, kC0_x, kC1_x, kC2_x, not_true_eq_false, not_false_eq_true, ne_eq, nP_ok (d + 3) D hn (show n ≤ 8 by omega) hp, nS_ok (d + 3) D hm h8 ht, c_S_sits (d + 4) (SN_p D), h]
  · by_cases h2 : sOn n (s.2 0) (Int32.ofNat t) = -1
    · obtain ⟨s1, k1, e1⟩ := c_S_markOn (d + 2) (b := b) (SN_p D) xl p t (by omega) (by omega) 0 (onesI (sSits n (s.2 0)) - 1)
      have e0 := k1.2 0 (by decide)
      have e12 := k1.2 12 (by decide)
      obtain ⟨s2, k2, e2⟩ := c_S_markToday (d + 1) (b := b) (SN_p D) (k1.xlaw xl) (k1.xcn C) (by rw [e0]; exact K) p hp
      rw [e0, e12] at e2
      refine ⟨s2, Ex0.k (k1.tr k2), (vY D rfl).trans ((B_Y_gains_0 _ _ _ _ _).trans ?_)⟩
      simp (disch := omega) only [x0_gF D, sn_gF (SN_p D), sn_gI (SN_p D), xu_gF D, xu_gI D, xk_gF D, xk_gI D, x1_gF D, pl_ix, ii_m1, ii_s1, obs, wF_1, wF_2, wA_1, wA_2, wR_1, wR_2, Nat.reduceEqDiff, Nat.reduceAdd, Nat.reduceMul, if_true, if_false, ite_true, ite_false, ii_la, ii_al, ii_lm, ii_ml, ii_add, ii_mul, ii_1, ii_le, ii_lt, ii_c1, ii_c2, ii_c3, ii_c4, ii_c5, ii_n1, ii_nn, kC0_v, kC1_v, kC2_v, kC3_v, kC0_x, kC1_x, kC2_x, not_true_eq_false, not_false_eq_true, ne_eq, nP_ok (d + 3) D hn (show n ≤ 8 by omega) hp, nS_ok (d + 3) D hm h8 ht, c_S_sits (d + 4) (SN_p D), h, i10, eq_self, c_S_whoIsOn (d + 4) (SN_p D) C, h2, c_S_whoSits (d + 3) (SN_p D) C, c_J_bitCount (d + 4) _ n h6, e1, e2]
    · refine ⟨s, Kf.rf _ _ s, (vY D rfl).trans ((B_Y_gains_0 _ _ _ _ _).trans ?_)⟩
      simp (disch := omega) only [x0_gF D, sn_gF (SN_p D), sn_gI (SN_p D), xu_gF D, xu_gI D, xk_gF D, xk_gI D, x1_gF D, pl_ix, ii_m1, ii_s1, obs, wF_1, wF_2, wA_1, wA_2, wR_1, wR_2, Nat.reduceEqDiff, Nat.reduceAdd, Nat.reduceMul, if_true, if_false, ite_true, ite_false, ii_la, ii_al, ii_lm, ii_ml, ii_add, ii_mul, ii_1, ii_le, ii_lt, ii_c1, ii_c2, ii_c3, ii_c4, ii_c5, ii_n1, ii_nn, kC0_v, kC1_v, kC2_v, kC3_v, kC0_x, kC1_x, kC2_x, not_true_eq_false, not_false_eq_true, ne_eq, nP_ok (d + 3) D hn (show n ≤ 8 by omega) hp, nS_ok (d + 3) D hm h8 ht, c_S_sits (d + 4) (SN_p D), h, i10, eq_self, c_S_whoIsOn (d + 4) (SN_p D) C, h2]
theorem R_gains (d : Nat) (b : pS) (τ : rT) {m n : Nat} {l : List Nat} (C : rCn τ m n) (rl : rLaw τ l) (K : Sok m n (τ.2 48)) (p t : Nat) (hp : p < n) (ht : t < m) : ∃ τ', Er0 τ τ' ∧ τ'.1 0 = 0 ∧ vcall (d + 6) m_R_gains [.ref 30, .int (Int32.ofNat p), .int (Int32.ofNat t)] (mS b τ) = some (.inl (some (.int (gainV l n (τ.2 37) (τ.2 48) p t))), mS b τ') := by
  have C1 : rCn (wR (wF τ 0 0) 49 (τ.2 48)) m n := C
  obtain ⟨hm, h8, hn, h6⟩ := C
  have hn1 : (wR (wF τ 0 0) 49 (τ.2 48)).1 23 = Int32.ofNat n := hn
  unfold gainV
  have start : ∀ X, den (d + 5) m_R_gains 0 (ent m_R_gains [.ref 30, .int (Int32.ofNat p), .int (Int32.ofNat t)]) [] (mS b τ) = X ↔ (if τ.2 48 (8 + p) = -1 then some (.inl (some (.int (-100))), mS b (wR (wF τ 0 0) 49 (τ.2 48))) else if sOn n (τ.2 48) (Int32.ofNat t) = -1 then kC1 (vcall (d + 5) m_R_markOf [.ref 30, .int (τ.2 48 t), .int (τ.2 37 p), .int 0, .int (τ.2 48 (20 + p)), .int (Int32.ofNat t), .int (Int32.ofNat p), .int (onesI (sSits n (τ.2 48)) - 1), .int (τ.2 48 75)] (mS b (wR (wF τ 0 0) 49 (τ.2 48)))) (fun v24 s23 => kC1 (vcall (d + 5) m_R_markBy [.ref 30, .int (Int32.ofNat p)] s23) (fun v26 s25 => some (.inl (some (.int (v24 - v26))), s25)) xp) xp else some (.inl (some (.int (-100))), mS b (wR (wF τ 0 0) 49 (τ.2 48)))) = X := by
    intro X
    rw [show den (d + 5) m_R_gains 0 (ent m_R_gains [.ref 30, .int (Int32.ofNat p), .int (Int32.ofNat t)]) [] (mS b τ) = _ from B_R_gains_0 _ _ _ _ _]
    simp (disch := omega) only [m_gF, m_gI, m_pI, m_gIl, m_pIl, ii_m1, ii_s1, m_pF, obs, wF_1, wF_2, wA_1, wA_2, wR_1, wR_2, Nat.reduceEqDiff, Nat.reduceAdd, Nat.reduceMul, if_true, if_false, ite_true, ite_false, ii_la, ii_al, ii_lm, ii_ml, ii_add, ii_mul, ii_1, ii_le, ii_lt, ii_c1, ii_c2, ii_c3, ii_c4, ii_c5, ii_n1, ii_nn, kC0_v, kC1_v, kC2_v, kC3_v, kC0_x, kC1_x, kC2_x, not_true_eq_false, not_false_eq_true, ne_eq, iP_ok (d + 3) hn (show n ≤ 8 by omega) hp, iS_ok (d + 3) hm h8 ht, i10, eq_self, c_R_take (d + 3), c_R_onSeat (d + 4) b _ n hn1 h6, c_R_sitsAll (d + 4) b _ n hn1 h6, c_R_ones (d + 4), Nat.zero_add]
  by_cases h : τ.2 48 (8 + p) = -1
  · refine ⟨wR (wF τ 0 0) 49 (τ.2 48), e_T1 τ, rfl, (vR rfl).trans ((start _).mpr ?_)⟩
    simp only [h, if_true]
  · by_cases h2 : sOn n (τ.2 48) (Int32.ofNat t) = -1
    · obtain ⟨τ1, k1, e1⟩ := c_R_markOf (d + 1) b (wR (wF τ 0 0) 49 (τ.2 48)) l ((e_T1 τ).law rl) (τ.2 48 t) (τ.2 37 p) 0 (τ.2 48 (20 + p)) (Int32.ofNat t) (Int32.ofNat p) (onesI (sSits n (τ.2 48)) - 1) (τ.2 48 75)
      have e49 : τ1.2 49 = τ.2 48 := (k1.2 49 (by decide)).trans (wR_g _ _ _)
      have e37 : τ1.2 37 = τ.2 37 := k1.2 37 (by decide)
      obtain ⟨τ2, k2, e2⟩ := c_R_markBy d b τ1 (k1.law ((e_T1 τ).law rl)) (k1.cn C1) (by rw [e49]; exact K) p hp
      rw [e49, e37] at e2
      refine ⟨τ2, (e_T1 τ).tr ((k1.tr k2).up (by decide) (by decide)), (k1.tr k2).1 0 (by decide), (vR rfl).trans ((start _).mpr ?_)⟩
      simp only [h, h2, if_true, if_false, e1, e2, kC1_v]
    · refine ⟨wR (wF τ 0 0) 49 (τ.2 48), e_T1 τ, rfl, (vR rfl).trans ((start _).mpr ?_)⟩
      simp only [h, h2, if_false]
theorem P_gains {S : pS} {L : xA} {s τ : rT} {m n q : Nat} {l : List Nat} (I : Iv S L s τ m n q l) (hd : RD s τ) (p : Int32) (t : Int32) : Pr m_L_gains m_R_gains [.int p, .int t] S := by
  have I' := I; obtain ⟨D, A, hx, hr, ho, ⟨C, Cr, ⟨q1, q2, q3⟩, hy, hdy, hdk, xl, rl, hb1, hb2⟩, ⟨⟨tk, k1, k2, k3⟩, tb, tf, tr⟩, ⟨e48, hsc⟩, rc⟩ := I'; have C' := C; have Cr' := Cr; obtain ⟨hm, h8, hn, h6⟩ := C'; obtain ⟨hm', -, hn', -⟩ := Cr'
  have hL := (cR (d := 199) (M := m_L_gains) (as := [.ref 0, .int p, .int t, .ref 58]) (s := S)).trans (B_L_gains_0 _ _ _ _ _ _)
  by_cases h0_ : 0 ≤ p ∧ p < Int32.ofNat n
  · obtain ⟨p, lp, rfl⟩ := ii_ex (by omega) h0_.1 h0_.2
    by_cases h1_ : 0 ≤ t ∧ t < Int32.ofNat m
    · obtain ⟨t, lt, rfl⟩ := ii_ex (by omega) h1_.1 h1_.2
      have ev : gainV l n (s.2 12) (s.2 0) p t = gainV l n (τ.2 37) (τ.2 48) p t := by unfold gainV; rw [mkB_c (hdk p lp).1, (hdk p lp).1, e48]
      exact P_q I hd hL (Y_gains 193 D C xl hsc.1 p t lp lt) (fun b => by rw [ev]; exact R_gains 194 b τ Cr rl (by rw [← e48]; exact hsc.1) p t lp lt)
    · have ya : ∀ d, vcall (d + 4) m_Y_gains [.ref 0, .int (Int32.ofNat p), .int t] (xS S L s) = xE0 S L s := fun d => by
        refine (vY D rfl).trans ((B_Y_gains_0 _ _ _ _ _).trans ?_)
        simp only [nP_ok (d + 1) D hn (show n ≤ 8 by omega) lp, kC0_v]
        rw [nS_no (d + 1) D (by rw [hm]; exact h1_)]
        rfl
      have ra : ∀ d b, vcall (d + 3) m_R_gains [.ref 30, .int (Int32.ofNat p), .int t] (mS b τ) = some (.inl (some (.int 0)), mS b (rN τ 1 0)) := fun d b => by
        refine (vR rfl).trans ((B_R_gains_0 _ _ _ _ _).trans ?_)
        simp only [m_pF, obs, iP_ok d hn' (show n ≤ 8 by omega) lp, iS_no d hm' h8 h1_ (show (1 : Int32) ≠ 0 by decide), kC1_v, i10, eq_self, if_true, if_false, not_true_eq_false, not_false_eq_true]
      exact P_e (k := 1) I hd hL (fun _ _ => rfl) (by decide) (ya 195) (ra 197)
  · have ya : ∀ d, vcall (d + 4) m_Y_gains [.ref 0, .int p, .int t] (xS S L s) = xE0 S L s := fun d => by
      refine (vY D rfl).trans ((B_Y_gains_0 _ _ _ _ _).trans ?_)
      rw [nP_no (d + 1) D (by rw [hn]; exact h0_)]
      rfl
    have ra : ∀ d b, vcall (d + 3) m_R_gains [.ref 30, .int p, .int t] (mS b τ) = some (.inl (some (.int 0)), mS b (rN τ 1 0)) := fun d b => by
      refine (vR rfl).trans ((B_R_gains_0 _ _ _ _ _).trans ?_)
      simp only [m_pF, obs, iP_no d hn' (show n ≤ 8 by omega) h0_ (show (1 : Int32) ≠ 0 by decide), kC1_v, i10, eq_self, if_true, if_false, not_true_eq_false, not_false_eq_true]
    exact P_e (k := 1) I hd hL (fun _ _ => rfl) (by decide) (ya 195) (ra 197)
theorem Y_would (d : Nat) {b : pS} {L : xA} {s : rT} {l : List Nat} (D : Dj L) (xl : xLaw s l) (a0 a1 a2 a3 a4 a5 a6 a7 : Int32) (h0 : (0 : Int32) ≤ a0 ∧ a0 ≤ 9) (h1 : (1 : Int32) ≤ a1 ∧ a1 ≤ 9) (h2 : (0 : Int32) ≤ a2 ∧ a2 ≤ 999) (h3 : (0 : Int32) ≤ a3 ∧ a3 ≤ 99) (h4 : (0 : Int32) ≤ a4 ∧ a4 ≤ 7) (h5 : (0 : Int32) ≤ a5 ∧ a5 ≤ 5) (h6 : (0 : Int32) ≤ a6 ∧ a6 ≤ 5) (h7 : (0 : Int32) ≤ a7 ∧ a7 ≤ 800) : ∃ s', Ex0 s s' ∧ vcall (d + 6) m_Y_would [.ref 0, .int a0, .int a1, .int a2, .int a3, .int a4, .int a5, .int a6, .int a7] (xS b L s) = some (.inl (some (.int (mkv l a0 a1 a2 a3 a4 a5 a6 a7))), xS b L s') := by
  obtain ⟨s', k, e⟩ := c_W_all (d + 3) (b := b) D xl a0 a1 a2 a3 a4 a5 a6 a7
  refine ⟨s', Ex0.k k, (vY D rfl).trans ((B_Y_would_0 _ _ _ _ _ _ _ _ _ _ _).trans ?_)⟩
  simp only [nR_ok (d + 3) D h0, nR_ok (d + 3) D h1, nR_ok (d + 3) D h2, nR_ok (d + 3) D h3, nR_ok (d + 3) D h4, nR_ok (d + 3) D h5, nR_ok (d + 3) D h6, nR_ok (d + 3) D h7, kC0_v, x0_gF D, obs, c_W_askPlace (d + 4) D, c_W_askPerson (d + 4) D, c_W_askTime (d + 4) D, e, kC1_v]
theorem R_would (d : Nat) (b : pS) (τ : rT) {l : List Nat} (rl : rLaw τ l) (a0 a1 a2 a3 a4 a5 a6 a7 : Int32) (h0 : (0 : Int32) ≤ a0 ∧ a0 ≤ 9) (h1 : (1 : Int32) ≤ a1 ∧ a1 ≤ 9) (h2 : (0 : Int32) ≤ a2 ∧ a2 ≤ 999) (h3 : (0 : Int32) ≤ a3 ∧ a3 ≤ 99) (h4 : (0 : Int32) ≤ a4 ∧ a4 ≤ 7) (h5 : (0 : Int32) ≤ a5 ∧ a5 ≤ 5) (h6 : (0 : Int32) ≤ a6 ∧ a6 ≤ 5) (h7 : (0 : Int32) ≤ a7 ∧ a7 ≤ 800) : ∃ τ', Er0 τ τ' ∧ τ'.1 0 = 0 ∧ vcall (d + 6) m_R_would [.ref 30, .int a0, .int a1, .int a2, .int a3, .int a4, .int a5, .int a6, .int a7] (mS b τ) = some (.inl (some (.int (mkv l a0 a1 a2 a3 a4 a5 a6 a7))), mS b τ') := by
  obtain ⟨τ', k, e⟩ := c_R_markOf (d + 1) b (wF τ 0 0) l ((e_T0 τ).law rl) a0 a1 a2 a3 a4 a5 a6 a7
  refine ⟨τ', (e_T0 τ).tr (k.up (by decide) (by decide)), k.1 0 (by decide), (vR rfl).trans ((B_R_would_0 _ _ _ _ _ _ _ _ _ _ _).trans ?_)⟩
  simp only [m_pF, obs, rw_ok (d + 4) _ h0, rw_ok (d + 4) _ h1, rw_ok (d + 4) _ h2, rw_ok (d + 4) _ h3, rw_ok (d + 4) _ h4, rw_ok (d + 4) _ h5, rw_ok (d + 4) _ h6, rw_ok (d + 4) _ h7, kC1_v, i10, eq_self, if_true, if_false, not_false_eq_true, B_R_would_96, rm_ok (d + 4), e]
theorem P_would {S : pS} {L : xA} {s τ : rT} {m n q : Nat} {l : List Nat} (I : Iv S L s τ m n q l) (hd : RD s τ) (a0 : Int32) (a1 : Int32) (a2 : Int32) (a3 : Int32) (a4 : Int32) (a5 : Int32) (a6 : Int32) (a7 : Int32) : Pr m_L_would m_R_would [.int a0, .int a1, .int a2, .int a3, .int a4, .int a5, .int a6, .int a7] S := by
  have I' := I; obtain ⟨D, A, hx, hr, ho, ⟨C, Cr, ⟨q1, q2, q3⟩, hy, hdy, hdk, xl, rl, hb1, hb2⟩, ⟨⟨tk, k1, k2, k3⟩, tb, tf, tr⟩, ⟨e48, hsc⟩, rc⟩ := I'; have C' := C; have Cr' := Cr; obtain ⟨hm, h8, hn, h6⟩ := C'; obtain ⟨hm', -, hn', -⟩ := Cr'
  have hL := (cR (d := 199) (M := m_L_would) (as := [.ref 0, .int a0, .int a1, .int a2, .int a3, .int a4, .int a5, .int a6, .int a7, .ref 58]) (s := S)).trans (B_L_would_0 _ _ _ _ _ _ _ _ _ _ _ _)
  by_cases h0_ : (0 : Int32) ≤ a0 ∧ a0 ≤ 9
  · obtain ⟨a0, la0, rfl⟩ := ii_ex (n := 10) (by decide) (Int32.le_trans (show (0 : Int32) ≤ 0 by decide) h0_.1) (Int32.lt_of_le_of_lt h0_.2 (by decide))
    by_cases h1_ : (1 : Int32) ≤ a1 ∧ a1 ≤ 9
    · obtain ⟨a1, la1, rfl⟩ := ii_ex (n := 10) (by decide) (Int32.le_trans (show (0 : Int32) ≤ 1 by decide) h1_.1) (Int32.lt_of_le_of_lt h1_.2 (by decide))
      by_cases h2_ : (0 : Int32) ≤ a2 ∧ a2 ≤ 999
      · obtain ⟨a2, la2, rfl⟩ := ii_ex (n := 1000) (by decide) (Int32.le_trans (show (0 : Int32) ≤ 0 by decide) h2_.1) (Int32.lt_of_le_of_lt h2_.2 (by decide))
        by_cases h3_ : (0 : Int32) ≤ a3 ∧ a3 ≤ 99
        · obtain ⟨a3, la3, rfl⟩ := ii_ex (n := 100) (by decide) (Int32.le_trans (show (0 : Int32) ≤ 0 by decide) h3_.1) (Int32.lt_of_le_of_lt h3_.2 (by decide))
          by_cases h4_ : (0 : Int32) ≤ a4 ∧ a4 ≤ 7
          · obtain ⟨a4, la4, rfl⟩ := ii_ex (n := 8) (by decide) (Int32.le_trans (show (0 : Int32) ≤ 0 by decide) h4_.1) (Int32.lt_of_le_of_lt h4_.2 (by decide))
            by_cases h5_ : (0 : Int32) ≤ a5 ∧ a5 ≤ 5
            · obtain ⟨a5, la5, rfl⟩ := ii_ex (n := 6) (by decide) (Int32.le_trans (show (0 : Int32) ≤ 0 by decide) h5_.1) (Int32.lt_of_le_of_lt h5_.2 (by decide))
              by_cases h6_ : (0 : Int32) ≤ a6 ∧ a6 ≤ 5
              · obtain ⟨a6, la6, rfl⟩ := ii_ex (n := 6) (by decide) (Int32.le_trans (show (0 : Int32) ≤ 0 by decide) h6_.1) (Int32.lt_of_le_of_lt h6_.2 (by decide))
                by_cases h7_ : (0 : Int32) ≤ a7 ∧ a7 ≤ 800
                · obtain ⟨a7, la7, rfl⟩ := ii_ex (n := 801) (by decide) (Int32.le_trans (show (0 : Int32) ≤ 0 by decide) h7_.1) (Int32.lt_of_le_of_lt h7_.2 (by decide))
                  exact P_q I hd hL (Y_would 193 D xl _ _ _ _ _ _ _ _ h0_ h1_ h2_ h3_ h4_ h5_ h6_ h7_) (fun b => R_would 194 b τ rl _ _ _ _ _ _ _ _ h0_ h1_ h2_ h3_ h4_ h5_ h6_ h7_)
                · have ya : ∀ d, vcall (d + 4) m_Y_would [.ref 0, .int (Int32.ofNat a0), .int (Int32.ofNat a1), .int (Int32.ofNat a2), .int (Int32.ofNat a3), .int (Int32.ofNat a4), .int (Int32.ofNat a5), .int (Int32.ofNat a6), .int a7] (xS S L s) = xA0 S L s := fun d => by
                    refine (vY D rfl).trans ((B_Y_would_0 _ _ _ _ _ _ _ _ _ _ _).trans ?_)
                    simp only [nR_ok (d + 1) D h0_, nR_ok (d + 1) D h1_, nR_ok (d + 1) D h2_, nR_ok (d + 1) D h3_, nR_ok (d + 1) D h4_, nR_ok (d + 1) D h5_, nR_ok (d + 1) D h6_, kC0_v]
                    rw [nR_no (d + 1) D h7_]
                    rfl
                  have ra : ∀ d b, vcall (d + 3) m_R_would [.ref 30, .int (Int32.ofNat a0), .int (Int32.ofNat a1), .int (Int32.ofNat a2), .int (Int32.ofNat a3), .int (Int32.ofNat a4), .int (Int32.ofNat a5), .int (Int32.ofNat a6), .int a7] (mS b τ) = some (.inl (some (.int 0)), mS b (rN τ 1 1)) := fun d b => by
                    refine (vR rfl).trans ((B_R_would_0 _ _ _ _ _ _ _ _ _ _ _).trans ?_)
                    simp only [m_pF, obs, rw_ok (d + 1) _ h0_, rm_ok (d + 1), rw_ok (d + 1) _ h1_, rm_ok (d + 1), rw_ok (d + 1) _ h2_, rm_ok (d + 1), rw_ok (d + 1) _ h3_, rm_ok (d + 1), rw_ok (d + 1) _ h4_, rm_ok (d + 1), rw_ok (d + 1) _ h5_, rm_ok (d + 1), rw_ok (d + 1) _ h6_, rm_ok (d + 1), rw_no (d + 1) _ h7_, rm_n1 (d + 1) (show (1 : Int32) ≠ 0 by decide), kC1_v, i10, eq_self, if_true, if_false, not_true_eq_false, not_false_eq_true, B_R_would_96]
                  exact P_a (k := 1) I hd hL (fun _ _ => rfl) (by decide) (ya 195) (ra 197)
              · have ya : ∀ d, vcall (d + 4) m_Y_would [.ref 0, .int (Int32.ofNat a0), .int (Int32.ofNat a1), .int (Int32.ofNat a2), .int (Int32.ofNat a3), .int (Int32.ofNat a4), .int (Int32.ofNat a5), .int a6, .int a7] (xS S L s) = xA0 S L s := fun d => by
                  refine (vY D rfl).trans ((B_Y_would_0 _ _ _ _ _ _ _ _ _ _ _).trans ?_)
                  simp only [nR_ok (d + 1) D h0_, nR_ok (d + 1) D h1_, nR_ok (d + 1) D h2_, nR_ok (d + 1) D h3_, nR_ok (d + 1) D h4_, nR_ok (d + 1) D h5_, kC0_v]
                  rw [nR_no (d + 1) D h6_]
                  rfl
                have ra : ∀ d b, vcall (d + 3) m_R_would [.ref 30, .int (Int32.ofNat a0), .int (Int32.ofNat a1), .int (Int32.ofNat a2), .int (Int32.ofNat a3), .int (Int32.ofNat a4), .int (Int32.ofNat a5), .int a6, .int a7] (mS b τ) = some (.inl (some (.int 0)), mS b (rN τ 1 1)) := fun d b => by
                  refine (vR rfl).trans ((B_R_would_0 _ _ _ _ _ _ _ _ _ _ _).trans ?_)
                  simp only [m_pF, obs, rw_ok (d + 1) _ h0_, rm_ok (d + 1), rw_ok (d + 1) _ h1_, rm_ok (d + 1), rw_ok (d + 1) _ h2_, rm_ok (d + 1), rw_ok (d + 1) _ h3_, rm_ok (d + 1), rw_ok (d + 1) _ h4_, rm_ok (d + 1), rw_ok (d + 1) _ h5_, rm_ok (d + 1), rw_no (d + 1) _ h6_, rm_n1 (d + 1) (show (1 : Int32) ≠ 0 by decide), kC1_v, i10, eq_self, if_true, if_false, not_true_eq_false, not_false_eq_true, B_R_would_96]
                exact P_a (k := 1) I hd hL (fun _ _ => rfl) (by decide) (ya 195) (ra 197)
            · have ya : ∀ d, vcall (d + 4) m_Y_would [.ref 0, .int (Int32.ofNat a0), .int (Int32.ofNat a1), .int (Int32.ofNat a2), .int (Int32.ofNat a3), .int (Int32.ofNat a4), .int a5, .int a6, .int a7] (xS S L s) = xA0 S L s := fun d => by
                refine (vY D rfl).trans ((B_Y_would_0 _ _ _ _ _ _ _ _ _ _ _).trans ?_)
                simp only [nR_ok (d + 1) D h0_, nR_ok (d + 1) D h1_, nR_ok (d + 1) D h2_, nR_ok (d + 1) D h3_, nR_ok (d + 1) D h4_, kC0_v]
                rw [nR_no (d + 1) D h5_]
                rfl
              have ra : ∀ d b, vcall (d + 3) m_R_would [.ref 30, .int (Int32.ofNat a0), .int (Int32.ofNat a1), .int (Int32.ofNat a2), .int (Int32.ofNat a3), .int (Int32.ofNat a4), .int a5, .int a6, .int a7] (mS b τ) = some (.inl (some (.int 0)), mS b (rN τ 1 1)) := fun d b => by
                refine (vR rfl).trans ((B_R_would_0 _ _ _ _ _ _ _ _ _ _ _).trans ?_)
                simp only [m_pF, obs, rw_ok (d + 1) _ h0_, rm_ok (d + 1), rw_ok (d + 1) _ h1_, rm_ok (d + 1), rw_ok (d + 1) _ h2_, rm_ok (d + 1), rw_ok (d + 1) _ h3_, rm_ok (d + 1), rw_ok (d + 1) _ h4_, rm_ok (d + 1), rw_no (d + 1) _ h5_, rm_n1 (d + 1) (show (1 : Int32) ≠ 0 by decide), kC1_v, i10, eq_self, if_true, if_false, not_true_eq_false, not_false_eq_true, B_R_would_96]
              exact P_a (k := 1) I hd hL (fun _ _ => rfl) (by decide) (ya 195) (ra 197)
          · have ya : ∀ d, vcall (d + 4) m_Y_would [.ref 0, .int (Int32.ofNat a0), .int (Int32.ofNat a1), .int (Int32.ofNat a2), .int (Int32.ofNat a3), .int a4, .int a5, .int a6, .int a7] (xS S L s) = xA0 S L s := fun d => by
              refine (vY D rfl).trans ((B_Y_would_0 _ _ _ _ _ _ _ _ _ _ _).trans ?_)
              simp only [nR_ok (d + 1) D h0_, nR_ok (d + 1) D h1_, nR_ok (d + 1) D h2_, nR_ok (d + 1) D h3_, kC0_v]
              rw [nR_no (d + 1) D h4_]
              rfl
            have ra : ∀ d b, vcall (d + 3) m_R_would [.ref 30, .int (Int32.ofNat a0), .int (Int32.ofNat a1), .int (Int32.ofNat a2), .int (Int32.ofNat a3), .int a4, .int a5, .int a6, .int a7] (mS b τ) = some (.inl (some (.int 0)), mS b (rN τ 1 1)) := fun d b => by
              refine (vR rfl).trans ((B_R_would_0 _ _ _ _ _ _ _ _ _ _ _).trans ?_)
              simp only [m_pF, obs, rw_ok (d + 1) _ h0_, rm_ok (d + 1), rw_ok (d + 1) _ h1_, rm_ok (d + 1), rw_ok (d + 1) _ h2_, rm_ok (d + 1), rw_ok (d + 1) _ h3_, rm_ok (d + 1), rw_no (d + 1) _ h4_, rm_n1 (d + 1) (show (1 : Int32) ≠ 0 by decide), kC1_v, i10, eq_self, if_true, if_false, not_true_eq_false, not_false_eq_true, B_R_would_96]
            exact P_a (k := 1) I hd hL (fun _ _ => rfl) (by decide) (ya 195) (ra 197)
        · have ya : ∀ d, vcall (d + 4) m_Y_would [.ref 0, .int (Int32.ofNat a0), .int (Int32.ofNat a1), .int (Int32.ofNat a2), .int a3, .int a4, .int a5, .int a6, .int a7] (xS S L s) = xA0 S L s := fun d => by
            refine (vY D rfl).trans ((B_Y_would_0 _ _ _ _ _ _ _ _ _ _ _).trans ?_)
            simp only [nR_ok (d + 1) D h0_, nR_ok (d + 1) D h1_, nR_ok (d + 1) D h2_, kC0_v]
            rw [nR_no (d + 1) D h3_]
            rfl
          have ra : ∀ d b, vcall (d + 3) m_R_would [.ref 30, .int (Int32.ofNat a0), .int (Int32.ofNat a1), .int (Int32.ofNat a2), .int a3, .int a4, .int a5, .int a6, .int a7] (mS b τ) = some (.inl (some (.int 0)), mS b (rN τ 1 1)) := fun d b => by
            refine (vR rfl).trans ((B_R_would_0 _ _ _ _ _ _ _ _ _ _ _).trans ?_)
            simp only [m_pF, obs, rw_ok (d + 1) _ h0_, rm_ok (d + 1), rw_ok (d + 1) _ h1_, rm_ok (d + 1), rw_ok (d + 1) _ h2_, rm_ok (d + 1), rw_no (d + 1) _ h3_, rm_n1 (d + 1) (show (1 : Int32) ≠ 0 by decide), kC1_v, i10, eq_self, if_true, if_false, not_true_eq_false, not_false_eq_true, B_R_would_96]
          exact P_a (k := 1) I hd hL (fun _ _ => rfl) (by decide) (ya 195) (ra 197)
      · have ya : ∀ d, vcall (d + 4) m_Y_would [.ref 0, .int (Int32.ofNat a0), .int (Int32.ofNat a1), .int a2, .int a3, .int a4, .int a5, .int a6, .int a7] (xS S L s) = xA0 S L s := fun d => by
          refine (vY D rfl).trans ((B_Y_would_0 _ _ _ _ _ _ _ _ _ _ _).trans ?_)
          simp only [nR_ok (d + 1) D h0_, nR_ok (d + 1) D h1_, kC0_v]
          rw [nR_no (d + 1) D h2_]
          rfl
        have ra : ∀ d b, vcall (d + 3) m_R_would [.ref 30, .int (Int32.ofNat a0), .int (Int32.ofNat a1), .int a2, .int a3, .int a4, .int a5, .int a6, .int a7] (mS b τ) = some (.inl (some (.int 0)), mS b (rN τ 1 1)) := fun d b => by
          refine (vR rfl).trans ((B_R_would_0 _ _ _ _ _ _ _ _ _ _ _).trans ?_)
          simp only [m_pF, obs, rw_ok (d + 1) _ h0_, rm_ok (d + 1), rw_ok (d + 1) _ h1_, rm_ok (d + 1), rw_no (d + 1) _ h2_, rm_n1 (d + 1) (show (1 : Int32) ≠ 0 by decide), kC1_v, i10, eq_self, if_true, if_false, not_true_eq_false, not_false_eq_true, B_R_would_96]
        exact P_a (k := 1) I hd hL (fun _ _ => rfl) (by decide) (ya 195) (ra 197)
    · have ya : ∀ d, vcall (d + 4) m_Y_would [.ref 0, .int (Int32.ofNat a0), .int a1, .int a2, .int a3, .int a4, .int a5, .int a6, .int a7] (xS S L s) = xA0 S L s := fun d => by
        refine (vY D rfl).trans ((B_Y_would_0 _ _ _ _ _ _ _ _ _ _ _).trans ?_)
        simp only [nR_ok (d + 1) D h0_, kC0_v]
        rw [nR_no (d + 1) D h1_]
        rfl
      have ra : ∀ d b, vcall (d + 3) m_R_would [.ref 30, .int (Int32.ofNat a0), .int a1, .int a2, .int a3, .int a4, .int a5, .int a6, .int a7] (mS b τ) = some (.inl (some (.int 0)), mS b (rN τ 1 1)) := fun d b => by
        refine (vR rfl).trans ((B_R_would_0 _ _ _ _ _ _ _ _ _ _ _).trans ?_)
        simp only [m_pF, obs, rw_ok (d + 1) _ h0_, rm_ok (d + 1), rw_no (d + 1) _ h1_, rm_n1 (d + 1) (show (1 : Int32) ≠ 0 by decide), kC1_v, i10, eq_self, if_true, if_false, not_true_eq_false, not_false_eq_true, B_R_would_96]
      exact P_a (k := 1) I hd hL (fun _ _ => rfl) (by decide) (ya 195) (ra 197)
  · have ya : ∀ d, vcall (d + 4) m_Y_would [.ref 0, .int a0, .int a1, .int a2, .int a3, .int a4, .int a5, .int a6, .int a7] (xS S L s) = xA0 S L s := fun d => by
      refine (vY D rfl).trans ((B_Y_would_0 _ _ _ _ _ _ _ _ _ _ _).trans ?_)
      rw [nR_no (d + 1) D h0_]
      rfl
    have ra : ∀ d b, vcall (d + 3) m_R_would [.ref 30, .int a0, .int a1, .int a2, .int a3, .int a4, .int a5, .int a6, .int a7] (mS b τ) = some (.inl (some (.int 0)), mS b (rN τ 1 1)) := fun d b => by
      refine (vR rfl).trans ((B_R_would_0 _ _ _ _ _ _ _ _ _ _ _).trans ?_)
      simp only [m_pF, obs, rw_no (d + 1) _ h0_, rm_n1 (d + 1) (show (1 : Int32) ≠ 0 by decide), kC1_v, i10, eq_self, if_true, if_false, not_true_eq_false, not_false_eq_true, B_R_would_96]
    exact P_a (k := 1) I hd hL (fun _ _ => rfl) (by decide) (ya 195) (ra 197)
/-- what is told of the best: which, or how much -/
def pkI (w : Nat) (bst mst : Int32) : Int32 := if bst = -1 then -1 else if w = 0 then bst else mst
theorem c_Y_pick (d : Nat) (s : pS) (w : Nat) (hw : w < 2) (x y : Int32) : call (d + 1) m_Y_pick [.int (Int32.ofNat w), .int x, .int y] s = some (.inl (some (.int (pkI w x y))), s) := by
  refine cR.trans ((B_Y_pick_0 _ _ _ _ _).trans ?_)
  unfold pkI
  by_cases h : x = -1
  · simp only [h, if_true, not_true_eq_false, if_false]
  · have : w = 0 ∨ w = 1 := by omega
    rcases this with rfl | rfl
    · simp (disch := omega) only [h, ii_m1, ii_s1, obs, wF_1, wF_2, wA_1, wA_2, wR_1, wR_2, Nat.reduceEqDiff, Nat.reduceAdd, Nat.reduceMul, if_true, if_false, ite_true, ite_false, ii_la, ii_al, ii_lm, ii_ml, ii_add, ii_mul, ii_1, ii_le, ii_lt, ii_c1, ii_c2, ii_c3, ii_c4, ii_c5, ii_n1, ii_nn, kC0_v, kC1_v, kC2_v, kC3_v, kC0_x, kC1_x, kC2_x, not_true_eq_false, not_false_eq_true, ne_eq]
    · simp (disch := omega) only [h, ii_m1, ii_s1, obs, wF_1, wF_2, wA_1, wA_2, wR_1, wR_2, Nat.reduceEqDiff, Nat.reduceAdd, Nat.reduceMul, if_true, if_false, ite_true, ite_false, ii_la, ii_al, ii_lm, ii_ml, ii_add, ii_mul, ii_1, ii_le, ii_lt, ii_c1, ii_c2, ii_c3, ii_c4, ii_c5, ii_n1, ii_nn, kC0_v, kC1_v, kC2_v, kC3_v, kC0_x, kC1_x, kC2_x, not_true_eq_false, not_false_eq_true, ne_eq]
def drkF (n : Nat) (v : Nat → Int32) (t : Nat) (x : Int32 × Int32) : Int32 × Int32 := if sAll n v t ≤ x.2 then x else (Int32.ofNat t, sAll n v t)
def drkV (m n : Nat) (v : Nat → Int32) (w : Nat) : Int32 := pkI w (fo (drkF n v) m (-1, 0)).1 (fo (drkF n v) m (-1, 0)).2
theorem Y_darkest (d : Nat) {b : pS} {L : xA} {s : rT} {m n : Nat} (D : Dj L) (C : Cn s m n) (w : Nat) (hw : w < 2) (h : (0 : Int32) ≤ Int32.ofNat w ∧ Int32.ofNat w ≤ 1) : vcall (d + 6) m_Y_darkest [.ref 0, .int (Int32.ofNat w)] (xS b L s) = some (.inl (some (.int (drkV m n (s.2 0) w))), xS b L s) := by
  have C' := C
  obtain ⟨hm, h8, hn, h6⟩ := C'
  refine (vY D rfl).trans ((B_Y_darkest_0 _ _ _ _).trans ?_)
  rw [nR_ok (d + 3) D h, kC0_v]
  obtain ⟨⟨x, v⟩, e, i⟩ := ex_loop (F := fun k (x : (Int32 × Int32) × Value) => den (d + 5) m_Y_darkest 14 [.ref 0, .int (Int32.ofNat w), .int x.1.1, .int x.1.2, .int (Int32.ofNat k), x.2] [] (xS b L s)) (I := fun k x => x.1 = fo (drkF n (s.2 0)) k (-1, 0)) m ((-1, 0), mk0) rfl (fun k x hk hx => by
    refine ⟨(drkF n (s.2 0) k x.1, .int (sAll n (s.2 0) k)), ?_, congrArg (drkF n (s.2 0) k) hx⟩
    dsimp only
    rw [B_Y_darkest_14]
    simp (disch := omega) only [x0_gF D, sn_gF (SN_p D), sn_gI (SN_p D), xu_gF D, xu_gI D, xk_gF D, xk_gI D, x1_gF D, pl_ix, ii_m1, ii_s1, obs, wF_1, wF_2, wA_1, wA_2, wR_1, wR_2, Nat.reduceEqDiff, Nat.reduceAdd, Nat.reduceMul, if_true, if_false, ite_true, ite_false, ii_la, ii_al, ii_lm, ii_ml, ii_add, ii_mul, ii_1, ii_le, ii_lt, ii_c1, ii_c2, ii_c3, ii_c4, ii_c5, ii_n1, ii_nn, kC0_v, kC1_v, kC2_v, kC3_v, kC0_x, kC1_x, kC2_x, not_true_eq_false, not_false_eq_true, ne_eq, hm, c_S_onSeat (d + 2) (SN_p D) C]
    rw [if_neg (by omega)]
    unfold drkF
    split <;> rfl)
  refine e.trans ?_
  dsimp only at i ⊢
  rw [B_Y_darkest_14]
  simp (disch := omega) only [x0_gF D, sn_gF (SN_p D), sn_gI (SN_p D), xu_gF D, xu_gI D, xk_gF D, xk_gI D, x1_gF D, pl_ix, ii_m1, ii_s1, obs, wF_1, wF_2, wA_1, wA_2, wR_1, wR_2, Nat.reduceEqDiff, Nat.reduceAdd, Nat.reduceMul, if_true, if_false, ite_true, ite_false, ii_la, ii_al, ii_lm, ii_ml, ii_add, ii_mul, ii_1, ii_le, ii_lt, ii_c1, ii_c2, ii_c3, ii_c4, ii_c5, ii_n1, ii_nn, kC0_v, kC1_v, kC2_v, kC3_v, kC0_x, kC1_x, kC2_x, not_true_eq_false, not_false_eq_true, ne_eq, hm, c_Y_pick (d + 4) _ w hw]
  rw [if_pos (Nat.le_refl m), i]
  rfl
theorem R_darkest (d : Nat) (b : pS) (τ : rT) {m n : Nat} (C : rCn τ m n) (w : Nat) (hw : w < 2) (h : (0 : Int32) ≤ Int32.ofNat w ∧ Int32.ofNat w ≤ 1) : vcall (d + 6) m_R_darkest [.ref 30, .int (Int32.ofNat w)] (mS b τ) = some (.inl (some (.int (drkV m n (τ.2 48) w))), mS b (wR (wF τ 0 0) 49 (τ.2 48))) := by
  obtain ⟨hm, h8, hn, h6⟩ := C
  have hn1 : (wR (wF τ 0 0) 49 (τ.2 48)).1 23 = Int32.ofNat n := hn
  refine (vR rfl).trans ((B_R_darkest_0 _ _ _ _).trans ?_)
  simp (disch := omega) only [m_pF, obs, rw_ok (d + 4) _ h, kC1_v, kC0_v, rm_ok (d + 4), c_R_take (d + 3), i10, eq_self, if_false, if_true, not_false_eq_true, wF_2]
  obtain ⟨x, e, i⟩ := ex_loop (F := fun k (x : Int32 × Int32) => den (d + 5) m_R_darkest 33 [.ref 30, .int (Int32.ofNat w), .int x.1, .int x.2, .int (Int32.ofNat k)] [] (mS b (wR (wF τ 0 0) 49 (τ.2 48)))) (I := fun k x => x = fo (drkF n (τ.2 48)) k (-1, 0)) m (-1, 0) rfl (fun k x hk hx => by
    refine ⟨drkF n (τ.2 48) k x, ?_, congrArg (drkF n (τ.2 48) k) hx⟩
    rw [B_R_darkest_33]
    simp (disch := omega) only [m_gF, m_gI, m_pI, m_gIl, m_pIl, ii_m1, ii_s1, m_pF, obs, wF_1, wF_2, wA_1, wA_2, wR_1, wR_2, Nat.reduceEqDiff, Nat.reduceAdd, Nat.reduceMul, if_true, if_false, ite_true, ite_false, ii_la, ii_al, ii_lm, ii_ml, ii_add, ii_mul, ii_1, ii_le, ii_lt, ii_c1, ii_c2, ii_c3, ii_c4, ii_c5, ii_n1, ii_nn, kC0_v, kC1_v, kC2_v, kC3_v, kC0_x, kC1_x, kC2_x, not_true_eq_false, not_false_eq_true, ne_eq, hm, c_R_allOn (d + 4) b _ n hn1 h6]
    rw [if_neg (by omega)]
    unfold drkF
    by_cases h : sAll n (τ.2 48) k ≤ x.2
    · rw [if_neg (Int32.not_lt.mpr h), if_pos h]
    · rw [if_pos (Int32.not_le.mp h), if_neg h])
  refine e.trans ?_
  rw [B_R_darkest_33]
  simp (disch := omega) only [m_gF, m_gI, m_pI, m_gIl, m_pIl, ii_m1, ii_s1, m_pF, obs, wF_1, wF_2, wA_1, wA_2, wR_1, wR_2, Nat.reduceEqDiff, Nat.reduceAdd, Nat.reduceMul, if_true, if_false, ite_true, ite_false, ii_la, ii_al, ii_lm, ii_ml, ii_add, ii_mul, ii_1, ii_le, ii_lt, ii_c1, ii_c2, ii_c3, ii_c4, ii_c5, ii_n1, ii_nn, kC0_v, kC1_v, kC2_v, kC3_v, kC0_x, kC1_x, kC2_x, not_true_eq_false, not_false_eq_true, ne_eq, hm]
  rw [if_pos (Nat.le_refl m), i]
  unfold drkV pkI
  have : w = 0 ∨ w = 1 := by omega
  rcases this with rfl | rfl
  · simp only [if_true]
    split <;> simp_all
  · simp only [if_false, Nat.reduceEqDiff]
    split <;> simp_all
theorem P_darkest {S : pS} {L : xA} {s τ : rT} {m n q : Nat} {l : List Nat} (I : Iv S L s τ m n q l) (hd : RD s τ) (w : Int32) : Pr m_L_darkest m_R_darkest [.int w] S := by
  have I' := I; obtain ⟨D, A, hx, hr, ho, ⟨C, Cr, ⟨q1, q2, q3⟩, hy, hdy, hdk, xl, rl, hb1, hb2⟩, ⟨⟨tk, k1, k2, k3⟩, tb, tf, tr⟩, ⟨e48, hsc⟩, rc⟩ := I'; have C' := C; have Cr' := Cr; obtain ⟨hm, h8, hn, h6⟩ := C'; obtain ⟨hm', -, hn', -⟩ := Cr'
  have hL := (cR (d := 199) (M := m_L_darkest) (as := [.ref 0, .int w, .ref 58]) (s := S)).trans (B_L_darkest_0 _ _ _ _ _)
  by_cases h0_ : (0 : Int32) ≤ w ∧ w ≤ 1
  · obtain ⟨w, lw, rfl⟩ := ii_ex (n := 2) (by decide) (Int32.le_trans (show (0 : Int32) ≤ 0 by decide) h0_.1) (Int32.lt_of_le_of_lt h0_.2 (by decide))
    exact P_q I hd hL ⟨s, Kf.rf _ _ s, Y_darkest 193 D C w (by omega) h0_⟩ (fun b => ⟨wR (wF τ 0 0) 49 (τ.2 48), e_T1 τ, rfl, by rw [e48]; exact R_darkest 194 b τ Cr w (by omega) h0_⟩)
  · have ya : ∀ d, vcall (d + 4) m_Y_darkest [.ref 0, .int w] (xS S L s) = xA0 S L s := fun d => by
      refine (vY D rfl).trans ((B_Y_darkest_0 _ _ _ _).trans ?_)
      rw [nR_no (d + 1) D h0_]
      rfl
    have ra : ∀ d b, vcall (d + 3) m_R_darkest [.ref 30, .int w] (mS b τ) = some (.inl (some (.int 0)), mS b (rN τ 1 1)) := fun d b => by
      refine (vR rfl).trans ((B_R_darkest_0 _ _ _ _).trans ?_)
      simp only [m_pF, obs, rw_no (d + 1) _ h0_, rm_n1 (d + 1) (show (1 : Int32) ≠ 0 by decide), kC1_v, i10, eq_self, if_true, if_false, not_true_eq_false, not_false_eq_true]
    exact P_a (k := 1) I hd hL (fun _ _ => rfl) (by decide) (ya 195) (ra 197)
/-- the first of those with the most -/
def am (P : Nat → Bool) (f : Nat → Int32) : Nat → Option Nat
  | 0 => none
  | k + 1 => match am P f k with
    | none => bif P k then some k else none
    | some j => bif P k && decide (f j < f k) then some k else some j
def oI : Option Nat → Int32
  | none => -1
  | some j => Int32.ofNat j
def mvI (f : Nat → Int32) : Option Nat → Int32
  | none => -1
  | some j => f j
theorem am_lt (P : Nat → Bool) (f : Nat → Int32) (k j : Nat) (h : am P f k = some j) : j < k := by
  induction k generalizing j with
  | zero => cases h
  | succ k ih =>
    unfold am at h
    cases e : am P f k with
    | none =>
      rw [e] at h
      dsimp only at h
      cases hP : P k <;> rw [hP] at h
      · cases h
      · cases h; omega
    | some i =>
      rw [e] at h
      dsimp only at h
      have := ih i e
      cases hP : (P k && decide (f i < f k)) <;> rw [hP] at h
      · cases h; omega
      · cases h; omega
theorem am_x (P : Nat → Bool) (f : Nat → Int32) (k : Nat) (hf : 0 ≤ f k) : (oI (am P f (k + 1)), mvI f (am P f (k + 1))) = if P k = true then (if f k ≤ mvI f (am P f k) then (oI (am P f k), mvI f (am P f k)) else (Int32.ofNat k, f k)) else (oI (am P f k), mvI f (am P f k)) := by
  show (oI (match am P f k with | none => _ | some j => _), mvI f (match am P f k with | none => _ | some j => _)) = _
  have h1 : ¬ f k ≤ -1 := fun h => by
    have e1 := Int32.le_iff_toInt_le.mp hf
    have e2 := Int32.le_iff_toInt_le.mp h
    have z : (0 : Int32).toInt = 0 := by decide
    have z1 : (-1 : Int32).toInt = -1 := by decide
    omega
  cases am P f k with
  | none =>
    cases P k with
    | false => rfl
    | true => simp only [mvI, oI, if_true, h1, if_false]; rfl
  | some j =>
    cases P k with
    | false => rfl
    | true =>
      by_cases h : f j < f k
      · have : ¬ f k ≤ f j := Int32.not_le.mpr h
        simp [mvI, oI, h, this]
      · have : f k ≤ f j := Int32.not_lt.mp h
        simp [mvI, oI, h, this]
def amV (P : Nat → Bool) (f : Nat → Int32) (n w : Nat) : Int32 := pkI w (oI (am P f n)) (mvI f (am P f n))
theorem oI_n {o : Option Nat} {n : Nat} (hn : n < 2147483648) (h : ∀ j, o = some j → j < n) : (oI o = -1) = (o = none) := by
  cases o with
  | none => simp [oI]
  | some j => have := h j rfl; simp [oI, ii_n1 (a := j) (by omega)]
theorem Y_stillest (d : Nat) {b : pS} {L : xA} {s : rT} {m n : Nat} (D : Dj L) (C : Cn s m n) (hf : ∀ k, k < n → 0 ≤ s.2 0 (14 + k)) (w : Nat) (hw : w < 2) (h : (0 : Int32) ≤ Int32.ofNat w ∧ Int32.ofNat w ≤ 1) : vcall (d + 6) m_Y_stillest [.ref 0, .int (Int32.ofNat w)] (xS b L s) = some (.inl (some (.int (amV (fun k => decide (¬ s.2 0 (8 + k) = -1)) (fun k => s.2 0 (14 + k)) n w))), xS b L s) := by
  have C' := C
  obtain ⟨hm, h8, hn, h6⟩ := C'
  refine (vY D rfl).trans ((B_Y_stillest_0 _ _ _ _).trans ?_)
  rw [nR_ok (d + 3) D h, kC0_v]
  obtain ⟨x, e, i⟩ := ex_loop (F := fun k (x : Int32 × Int32) => den (d + 5) m_Y_stillest 14 [.ref 0, .int (Int32.ofNat w), .int x.1, .int x.2, .int (Int32.ofNat k)] [] (xS b L s)) (I := fun k x => x = (oI (am (fun k => decide (¬ s.2 0 (8 + k) = -1)) (fun k => s.2 0 (14 + k)) k), mvI (fun k => s.2 0 (14 + k)) (am (fun k => decide (¬ s.2 0 (8 + k) = -1)) (fun k => s.2 0 (14 + k)) k))) n (-1, -1) rfl (fun k x hk hx => by
    refine ⟨_, ?_, rfl⟩
    rw [am_x _ _ k (hf k hk), hx, B_Y_stillest_14]
    simp (disch := omega) only [x0_gF D, sn_gF (SN_p D), sn_gI (SN_p D), xu_gF D, xu_gI D, xk_gF D, xk_gI D, x1_gF D, pl_ix, ii_m1, ii_s1, obs, wF_1, wF_2, wA_1, wA_2, wR_1, wR_2, Nat.reduceEqDiff, Nat.reduceAdd, Nat.reduceMul, if_true, if_false, ite_true, ite_false, ii_la, ii_al, ii_lm, ii_ml, ii_add, ii_mul, ii_1, ii_le, ii_lt, ii_c1, ii_c2, ii_c3, ii_c4, ii_c5, ii_n1, ii_nn, kC0_v, kC1_v, kC2_v, kC3_v, kC0_x, kC1_x, kC2_x, not_true_eq_false, not_false_eq_true, ne_eq, hn, c_S_sits (d + 4) (SN_p D)]
    rw [if_neg (by omega)]
    by_cases hs : s.2 0 (8 + k) = -1
    · simp only [hs, if_true, not_true_eq_false, decide_false, Bool.false_eq_true, if_false]
    · simp only [hs, if_false, i10, eq_self, not_false_eq_true, decide_true, if_true]
      split <;> rfl)
  refine e.trans ?_
  rw [B_Y_stillest_14, i]
  simp (disch := omega) only [x0_gF D, sn_gF (SN_p D), sn_gI (SN_p D), xu_gF D, xu_gI D, xk_gF D, xk_gI D, x1_gF D, pl_ix, ii_m1, ii_s1, obs, wF_1, wF_2, wA_1, wA_2, wR_1, wR_2, Nat.reduceEqDiff, Nat.reduceAdd, Nat.reduceMul, if_true, if_false, ite_true, ite_false, ii_la, ii_al, ii_lm, ii_ml, ii_add, ii_mul, ii_1, ii_le, ii_lt, ii_c1, ii_c2, ii_c3, ii_c4, ii_c5, ii_n1, ii_nn, kC0_v, kC1_v, kC2_v, kC3_v, kC0_x, kC1_x, kC2_x, not_true_eq_false, not_false_eq_true, ne_eq, hn, c_Y_pick (d + 4) _ w hw]
  rw [if_pos (Nat.le_refl _)]
  rfl
theorem Y_hungriest (d : Nat) {b : pS} {L : xA} {s : rT} {m n : Nat} (D : Dj L) (C : Cn s m n) (hf : ∀ k, k < n → 0 ≤ s.2 0 (20 + k)) (w : Nat) (hw : w < 2) (h : (0 : Int32) ≤ Int32.ofNat w ∧ Int32.ofNat w ≤ 1) : vcall (d + 6) m_Y_hungriest [.ref 0, .int (Int32.ofNat w)] (xS b L s) = some (.inl (some (.int (amV (fun k => true) (fun k => s.2 0 (20 + k)) n w))), xS b L s) := by
  have C' := C
  obtain ⟨hm, h8, hn, h6⟩ := C'
  refine (vY D rfl).trans ((B_Y_hungriest_0 _ _ _ _).trans ?_)
  rw [nR_ok (d + 3) D h, kC0_v]
  obtain ⟨x, e, i⟩ := ex_loop (F := fun k (x : Int32 × Int32) => den (d + 5) m_Y_hungriest 14 [.ref 0, .int (Int32.ofNat w), .int x.1, .int x.2, .int (Int32.ofNat k)] [] (xS b L s)) (I := fun k x => x = (oI (am (fun k => true) (fun k => s.2 0 (20 + k)) k), mvI (fun k => s.2 0 (20 + k)) (am (fun k => true) (fun k => s.2 0 (20 + k)) k))) n (-1, -1) rfl (fun k x hk hx => by
    refine ⟨_, ?_, rfl⟩
    rw [am_x _ _ k (hf k hk), hx, B_Y_hungriest_14]
    simp (disch := omega) only [x0_gF D, sn_gF (SN_p D), sn_gI (SN_p D), xu_gF D, xu_gI D, xk_gF D, xk_gI D, x1_gF D, pl_ix, ii_m1, ii_s1, obs, wF_1, wF_2, wA_1, wA_2, wR_1, wR_2, Nat.reduceEqDiff, Nat.reduceAdd, Nat.reduceMul, if_true, if_false, ite_true, ite_false, ii_la, ii_al, ii_lm, ii_ml, ii_add, ii_mul, ii_1, ii_le, ii_lt, ii_c1, ii_c2, ii_c3, ii_c4, ii_c5, ii_n1, ii_nn, kC0_v, kC1_v, kC2_v, kC3_v, kC0_x, kC1_x, kC2_x, not_true_eq_false, not_false_eq_true, ne_eq, hn]
    rw [if_neg (by omega)]
    split <;> rfl)
  refine e.trans ?_
  rw [B_Y_hungriest_14, i]
  simp (disch := omega) only [x0_gF D, sn_gF (SN_p D), sn_gI (SN_p D), xu_gF D, xu_gI D, xk_gF D, xk_gI D, x1_gF D, pl_ix, ii_m1, ii_s1, obs, wF_1, wF_2, wA_1, wA_2, wR_1, wR_2, Nat.reduceEqDiff, Nat.reduceAdd, Nat.reduceMul, if_true, if_false, ite_true, ite_false, ii_la, ii_al, ii_lm, ii_ml, ii_add, ii_mul, ii_1, ii_le, ii_lt, ii_c1, ii_c2, ii_c3, ii_c4, ii_c5, ii_n1, ii_nn, kC0_v, kC1_v, kC2_v, kC3_v, kC0_x, kC1_x, kC2_x, not_true_eq_false, not_false_eq_true, ne_eq, hn, c_Y_pick (d + 4) _ w hw]
  rw [if_pos (Nat.le_refl _)]
  rfl
theorem Y_brightest (d : Nat) {b : pS} {L : xA} {s : rT} {m n : Nat} (D : Dj L) (C : Cn s m n) (hf : ∀ k, k < m → 0 ≤ s.2 0 (0 + k)) (w : Nat) (hw : w < 2) (h : (0 : Int32) ≤ Int32.ofNat w ∧ Int32.ofNat w ≤ 1) : vcall (d + 6) m_Y_brightest [.ref 0, .int (Int32.ofNat w)] (xS b L s) = some (.inl (some (.int (amV (fun k => true) (fun k => s.2 0 (0 + k)) m w))), xS b L s) := by
  have C' := C
  obtain ⟨hm, h8, hn, h6⟩ := C'
  refine (vY D rfl).trans ((B_Y_brightest_0 _ _ _ _).trans ?_)
  rw [nR_ok (d + 3) D h, kC0_v]
  obtain ⟨x, e, i⟩ := ex_loop (F := fun k (x : Int32 × Int32) => den (d + 5) m_Y_brightest 14 [.ref 0, .int (Int32.ofNat w), .int x.1, .int x.2, .int (Int32.ofNat k)] [] (xS b L s)) (I := fun k x => x = (oI (am (fun k => true) (fun k => s.2 0 (0 + k)) k), mvI (fun k => s.2 0 (0 + k)) (am (fun k => true) (fun k => s.2 0 (0 + k)) k))) m (-1, -1) rfl (fun k x hk hx => by
    refine ⟨_, ?_, rfl⟩
    rw [am_x _ _ k (hf k hk), hx, B_Y_brightest_14]
    simp (disch := omega) only [x0_gF D, sn_gF (SN_p D), sn_gI (SN_p D), xu_gF D, xu_gI D, xk_gF D, xk_gI D, x1_gF D, pl_ix, ii_m1, ii_s1, obs, wF_1, wF_2, wA_1, wA_2, wR_1, wR_2, Nat.reduceEqDiff, Nat.reduceAdd, Nat.reduceMul, if_true, if_false, ite_true, ite_false, ii_la, ii_al, ii_lm, ii_ml, ii_add, ii_mul, ii_1, ii_le, ii_lt, ii_c1, ii_c2, ii_c3, ii_c4, ii_c5, ii_n1, ii_nn, kC0_v, kC1_v, kC2_v, kC3_v, kC0_x, kC1_x, kC2_x, not_true_eq_false, not_false_eq_true, ne_eq, hm]
    rw [if_neg (by omega)]
    split <;> rfl)
  refine e.trans ?_
  rw [B_Y_brightest_14, i]
  simp (disch := omega) only [x0_gF D, sn_gF (SN_p D), sn_gI (SN_p D), xu_gF D, xu_gI D, xk_gF D, xk_gI D, x1_gF D, pl_ix, ii_m1, ii_s1, obs, wF_1, wF_2, wA_1, wA_2, wR_1, wR_2, Nat.reduceEqDiff, Nat.reduceAdd, Nat.reduceMul, if_true, if_false, ite_true, ite_false, ii_la, ii_al, ii_lm, ii_ml, ii_add, ii_mul, ii_1, ii_le, ii_lt, ii_c1, ii_c2, ii_c3, ii_c4, ii_c5, ii_n1, ii_nn, kC0_v, kC1_v, kC2_v, kC3_v, kC0_x, kC1_x, kC2_x, not_true_eq_false, not_false_eq_true, ne_eq, hm, c_Y_pick (d + 4) _ w hw]
  rw [if_pos (Nat.le_refl _)]
  rfl
theorem R_stillest (d : Nat) (b : pS) (τ : rT) {m n : Nat} (C : rCn τ m n) (w : Nat) (hw : w < 2) (h : (0 : Int32) ≤ Int32.ofNat w ∧ Int32.ofNat w ≤ 1) : vcall (d + 6) m_R_stillest [.ref 30, .int (Int32.ofNat w)] (mS b τ) = some (.inl (some (.int (amV (fun k => decide (¬ τ.2 48 (8 + k) = -1)) (fun k => τ.2 48 (14 + k)) n w))), mS b (wF τ 0 0)) := by
  obtain ⟨hm, h8, hn, h6⟩ := C
  refine (vR rfl).trans ((B_R_stillest_0 _ _ _ _).trans ?_)
  simp (disch := omega) only [m_pF, obs, rw_ok (d + 4) _ h, kC1_v, rm_ok (d + 4), i10, eq_self, if_false, if_true, not_false_eq_true]
  obtain ⟨x, e, i⟩ := ex_loop (F := fun k (x : Int32) => den (d + 5) m_R_stillest 26 [.ref 30, .int (Int32.ofNat w), .int x, .int (Int32.ofNat k)] [] (mS b (wF τ 0 0))) (I := fun k x => x = oI (am (fun k => decide (¬ τ.2 48 (8 + k) = -1)) (fun k => τ.2 48 (14 + k)) k)) n (-1) rfl (fun k x hk hx => by
    refine ⟨_, ?_, rfl⟩
    rw [hx, B_R_stillest_26]
    simp (disch := omega) only [m_gF, m_gI, m_pI, m_gIl, m_pIl, ii_m1, ii_s1, m_pF, obs, wF_1, wF_2, wA_1, wA_2, wR_1, wR_2, Nat.reduceEqDiff, Nat.reduceAdd, Nat.reduceMul, if_true, if_false, ite_true, ite_false, ii_la, ii_al, ii_lm, ii_ml, ii_add, ii_mul, ii_1, ii_le, ii_lt, ii_c1, ii_c2, ii_c3, ii_c4, ii_c5, ii_n1, ii_nn, kC0_v, kC1_v, kC2_v, kC3_v, kC0_x, kC1_x, kC2_x, not_true_eq_false, not_false_eq_true, ne_eq, hn]
    rw [if_neg (by omega)]
    show _ = den _ _ _ [_, _, .int (oI (match am (fun k => decide (¬ τ.2 48 (8 + k) = -1)) (fun k => τ.2 48 (14 + k)) k with | none => _ | some j => _)), _] [] _
    cases ea : am (fun k => decide (¬ τ.2 48 (8 + k) = -1)) (fun k => τ.2 48 (14 + k)) k with
    | none =>
      simp only [oI, if_true]
      by_cases hs : τ.2 48 (8 + k) = -1 <;> simp [hs]
    | some j =>
      have hj := am_lt _ _ _ _ ea
      simp (disch := omega) only [oI, m_gF, m_gI, m_pI, m_gIl, m_pIl, ii_m1, ii_s1, m_pF, obs, wF_1, wF_2, wA_1, wA_2, wR_1, wR_2, Nat.reduceEqDiff, Nat.reduceAdd, Nat.reduceMul, if_true, if_false, ite_true, ite_false, ii_la, ii_al, ii_lm, ii_ml, ii_add, ii_mul, ii_1, ii_le, ii_lt, ii_c1, ii_c2, ii_c3, ii_c4, ii_c5, ii_n1, ii_nn, kC0_v, kC1_v, kC2_v, kC3_v, kC0_x, kC1_x, kC2_x, not_true_eq_false, not_false_eq_true, ne_eq]
      by_cases hs : τ.2 48 (8 + k) = -1
      · simp [hs]
      · by_cases h2 : τ.2 48 (14 + k) ≤ τ.2 48 (14 + j)
        · have h3 : ¬ τ.2 48 (14 + j) < τ.2 48 (14 + k) := Int32.not_lt.mpr h2
          simp [hs, h2, h3]
        · have h3 : τ.2 48 (14 + j) < τ.2 48 (14 + k) := Int32.not_le.mp h2
          simp [hs, h2, h3])
  refine e.trans ?_
  rw [B_R_stillest_26, i]
  simp (disch := omega) only [m_gF, m_gI, m_pI, m_gIl, m_pIl, ii_m1, ii_s1, m_pF, obs, wF_1, wF_2, wA_1, wA_2, wR_1, wR_2, Nat.reduceEqDiff, Nat.reduceAdd, Nat.reduceMul, if_true, if_false, ite_true, ite_false, ii_la, ii_al, ii_lm, ii_ml, ii_add, ii_mul, ii_1, ii_le, ii_lt, ii_c1, ii_c2, ii_c3, ii_c4, ii_c5, ii_n1, ii_nn, kC0_v, kC1_v, kC2_v, kC3_v, kC0_x, kC1_x, kC2_x, not_true_eq_false, not_false_eq_true, ne_eq, hn]
  rw [if_pos (Nat.le_refl _)]
  unfold amV pkI
  cases ea : am (fun k => decide (¬ τ.2 48 (8 + k) = -1)) (fun k => τ.2 48 (14 + k)) n with
  | none =>
    simp only [oI, if_true, not_true_eq_false, if_false]
    split <;> rfl
  | some j =>
    have hj := am_lt _ _ _ _ ea
    simp (disch := omega) only [oI, mvI, m_gF, m_gI, m_pI, m_gIl, m_pIl, ii_m1, ii_s1, m_pF, obs, wF_1, wF_2, wA_1, wA_2, wR_1, wR_2, Nat.reduceEqDiff, Nat.reduceAdd, Nat.reduceMul, if_true, if_false, ite_true, ite_false, ii_la, ii_al, ii_lm, ii_ml, ii_add, ii_mul, ii_1, ii_le, ii_lt, ii_c1, ii_c2, ii_c3, ii_c4, ii_c5, ii_n1, ii_nn, kC0_v, kC1_v, kC2_v, kC3_v, kC0_x, kC1_x, kC2_x, not_true_eq_false, not_false_eq_true, ne_eq]
    split <;> rfl
theorem R_hungriest (d : Nat) (b : pS) (τ : rT) {m n : Nat} (C : rCn τ m n) (w : Nat) (hw : w < 2) (h : (0 : Int32) ≤ Int32.ofNat w ∧ Int32.ofNat w ≤ 1) : vcall (d + 6) m_R_hungriest [.ref 30, .int (Int32.ofNat w)] (mS b τ) = some (.inl (some (.int (amV (fun k => true) (fun k => τ.2 48 (20 + k)) n w))), mS b (wF τ 0 0)) := by
  obtain ⟨hm, h8, hn, h6⟩ := C
  refine (vR rfl).trans ((B_R_hungriest_0 _ _ _ _).trans ?_)
  simp (disch := omega) only [m_pF, obs, rw_ok (d + 4) _ h, kC1_v, rm_ok (d + 4), i10, eq_self, if_false, if_true, not_false_eq_true]
  obtain ⟨x, e, i⟩ := ex_loop (F := fun k (x : Int32) => den (d + 5) m_R_hungriest 26 [.ref 30, .int (Int32.ofNat w), .int x, .int (Int32.ofNat k)] [] (mS b (wF τ 0 0))) (I := fun k x => x = oI (am (fun k => true) (fun k => τ.2 48 (20 + k)) k)) n (-1) rfl (fun k x hk hx => by
    refine ⟨_, ?_, rfl⟩
    rw [hx, B_R_hungriest_26]
    simp (disch := omega) only [m_gF, m_gI, m_pI, m_gIl, m_pIl, ii_m1, ii_s1, m_pF, obs, wF_1, wF_2, wA_1, wA_2, wR_1, wR_2, Nat.reduceEqDiff, Nat.reduceAdd, Nat.reduceMul, if_true, if_false, ite_true, ite_false, ii_la, ii_al, ii_lm, ii_ml, ii_add, ii_mul, ii_1, ii_le, ii_lt, ii_c1, ii_c2, ii_c3, ii_c4, ii_c5, ii_n1, ii_nn, kC0_v, kC1_v, kC2_v, kC3_v, kC0_x, kC1_x, kC2_x, not_true_eq_false, not_false_eq_true, ne_eq, hn]
    rw [if_neg (by omega)]
    show _ = den _ _ _ [_, _, .int (oI (match am (fun k => true) (fun k => τ.2 48 (20 + k)) k with | none => _ | some j => _)), _] [] _
    cases ea : am (fun k => true) (fun k => τ.2 48 (20 + k)) k with
    | none =>
      simp only [oI, if_true]
      rfl
    | some j =>
      have hj := am_lt _ _ _ _ ea
      simp (disch := omega) only [oI, m_gF, m_gI, m_pI, m_gIl, m_pIl, ii_m1, ii_s1, m_pF, obs, wF_1, wF_2, wA_1, wA_2, wR_1, wR_2, Nat.reduceEqDiff, Nat.reduceAdd, Nat.reduceMul, if_true, if_false, ite_true, ite_false, ii_la, ii_al, ii_lm, ii_ml, ii_add, ii_mul, ii_1, ii_le, ii_lt, ii_c1, ii_c2, ii_c3, ii_c4, ii_c5, ii_n1, ii_nn, kC0_v, kC1_v, kC2_v, kC3_v, kC0_x, kC1_x, kC2_x, not_true_eq_false, not_false_eq_true, ne_eq]
      by_cases h2 : τ.2 48 (20 + k) ≤ τ.2 48 (20 + j)
      · have h3 : ¬ τ.2 48 (20 + j) < τ.2 48 (20 + k) := Int32.not_lt.mpr h2
        simp only [h2, h3, if_true, decide_false, Bool.and_false, cond_false]
      · have h3 : τ.2 48 (20 + j) < τ.2 48 (20 + k) := Int32.not_le.mp h2
        simp only [h2, h3, if_false, decide_true, Bool.and_true, cond_true])
  refine e.trans ?_
  rw [B_R_hungriest_26, i]
  simp (disch := omega) only [m_gF, m_gI, m_pI, m_gIl, m_pIl, ii_m1, ii_s1, m_pF, obs, wF_1, wF_2, wA_1, wA_2, wR_1, wR_2, Nat.reduceEqDiff, Nat.reduceAdd, Nat.reduceMul, if_true, if_false, ite_true, ite_false, ii_la, ii_al, ii_lm, ii_ml, ii_add, ii_mul, ii_1, ii_le, ii_lt, ii_c1, ii_c2, ii_c3, ii_c4, ii_c5, ii_n1, ii_nn, kC0_v, kC1_v, kC2_v, kC3_v, kC0_x, kC1_x, kC2_x, not_true_eq_false, not_false_eq_true, ne_eq, hn]
  rw [if_pos (Nat.le_refl _)]
  unfold amV pkI
  cases ea : am (fun k => true) (fun k => τ.2 48 (20 + k)) n with
  | none =>
    simp only [oI, if_true, not_true_eq_false, if_false]
    split <;> rfl
  | some j =>
    have hj := am_lt _ _ _ _ ea
    simp (disch := omega) only [oI, mvI, m_gF, m_gI, m_pI, m_gIl, m_pIl, ii_m1, ii_s1, m_pF, obs, wF_1, wF_2, wA_1, wA_2, wR_1, wR_2, Nat.reduceEqDiff, Nat.reduceAdd, Nat.reduceMul, if_true, if_false, ite_true, ite_false, ii_la, ii_al, ii_lm, ii_ml, ii_add, ii_mul, ii_1, ii_le, ii_lt, ii_c1, ii_c2, ii_c3, ii_c4, ii_c5, ii_n1, ii_nn, kC0_v, kC1_v, kC2_v, kC3_v, kC0_x, kC1_x, kC2_x, not_true_eq_false, not_false_eq_true, ne_eq]
    split <;> rfl
theorem R_brightest (d : Nat) (b : pS) (τ : rT) {m n : Nat} (C : rCn τ m n) (w : Nat) (hw : w < 2) (h : (0 : Int32) ≤ Int32.ofNat w ∧ Int32.ofNat w ≤ 1) : vcall (d + 6) m_R_brightest [.ref 30, .int (Int32.ofNat w)] (mS b τ) = some (.inl (some (.int (amV (fun k => true) (fun k => τ.2 48 (0 + k)) m w))), mS b (wF τ 0 0)) := by
  obtain ⟨hm, h8, hn, h6⟩ := C
  refine (vR rfl).trans ((B_R_brightest_0 _ _ _ _).trans ?_)
  simp (disch := omega) only [m_pF, obs, rw_ok (d + 4) _ h, kC1_v, rm_ok (d + 4), i10, eq_self, if_false, if_true, not_false_eq_true]
  obtain ⟨x, e, i⟩ := ex_loop (F := fun k (x : Int32) => den (d + 5) m_R_brightest 26 [.ref 30, .int (Int32.ofNat w), .int x, .int (Int32.ofNat k)] [] (mS b (wF τ 0 0))) (I := fun k x => x = oI (am (fun k => true) (fun k => τ.2 48 (0 + k)) k)) m (-1) rfl (fun k x hk hx => by
    refine ⟨_, ?_, rfl⟩
    rw [hx, B_R_brightest_26]
    simp (disch := omega) only [m_gF, m_gI, m_pI, m_gIl, m_pIl, ii_m1, ii_s1, m_pF, obs, wF_1, wF_2, wA_1, wA_2, wR_1, wR_2, Nat.reduceEqDiff, Nat.reduceAdd, Nat.reduceMul, if_true, if_false, ite_true, ite_false, ii_la, ii_al, ii_lm, ii_ml, ii_add, ii_mul, ii_1, ii_le, ii_lt, ii_c1, ii_c2, ii_c3, ii_c4, ii_c5, ii_n1, ii_nn, kC0_v, kC1_v, kC2_v, kC3_v, kC0_x, kC1_x, kC2_x, not_true_eq_false, not_false_eq_true, ne_eq, hm]
    rw [if_neg (by omega)]
    show _ = den _ _ _ [_, _, .int (oI (match am (fun k => true) (fun k => τ.2 48 (0 + k)) k with | none => _ | some j => _)), _] [] _
    cases ea : am (fun k => true) (fun k => τ.2 48 (0 + k)) k with
    | none =>
      simp only [oI, if_true]
      rfl
    | some j =>
      have hj := am_lt _ _ _ _ ea
      simp (disch := omega) only [oI, m_gF, m_gI, m_pI, m_gIl, m_pIl, ii_m1, ii_s1, m_pF, obs, wF_1, wF_2, wA_1, wA_2, wR_1, wR_2, Nat.reduceEqDiff, Nat.reduceAdd, Nat.reduceMul, if_true, if_false, ite_true, ite_false, ii_la, ii_al, ii_lm, ii_ml, ii_add, ii_mul, ii_1, ii_le, ii_lt, ii_c1, ii_c2, ii_c3, ii_c4, ii_c5, ii_n1, ii_nn, kC0_v, kC1_v, kC2_v, kC3_v, kC0_x, kC1_x, kC2_x, not_true_eq_false, not_false_eq_true, ne_eq]
      by_cases h2 : τ.2 48 (0 + k) ≤ τ.2 48 (0 + j)
      · have h3 : ¬ τ.2 48 (0 + j) < τ.2 48 (0 + k) := Int32.not_lt.mpr h2
        simp only [h2, h3, if_true, decide_false, Bool.and_false, cond_false]
      · have h3 : τ.2 48 (0 + j) < τ.2 48 (0 + k) := Int32.not_le.mp h2
        simp only [h2, h3, if_false, decide_true, Bool.and_true, cond_true])
  refine e.trans ?_
  rw [B_R_brightest_26, i]
  simp (disch := omega) only [m_gF, m_gI, m_pI, m_gIl, m_pIl, ii_m1, ii_s1, m_pF, obs, wF_1, wF_2, wA_1, wA_2, wR_1, wR_2, Nat.reduceEqDiff, Nat.reduceAdd, Nat.reduceMul, if_true, if_false, ite_true, ite_false, ii_la, ii_al, ii_lm, ii_ml, ii_add, ii_mul, ii_1, ii_le, ii_lt, ii_c1, ii_c2, ii_c3, ii_c4, ii_c5, ii_n1, ii_nn, kC0_v, kC1_v, kC2_v, kC3_v, kC0_x, kC1_x, kC2_x, not_true_eq_false, not_false_eq_true, ne_eq, hm]
  rw [if_pos (Nat.le_refl _)]
  unfold amV pkI
  cases ea : am (fun k => true) (fun k => τ.2 48 (0 + k)) m with
  | none =>
    simp only [oI, if_true, not_true_eq_false, if_false]
    split <;> rfl
  | some j =>
    have hj := am_lt _ _ _ _ ea
    simp (disch := omega) only [oI, mvI, m_gF, m_gI, m_pI, m_gIl, m_pIl, ii_m1, ii_s1, m_pF, obs, wF_1, wF_2, wA_1, wA_2, wR_1, wR_2, Nat.reduceEqDiff, Nat.reduceAdd, Nat.reduceMul, if_true, if_false, ite_true, ite_false, ii_la, ii_al, ii_lm, ii_ml, ii_add, ii_mul, ii_1, ii_le, ii_lt, ii_c1, ii_c2, ii_c3, ii_c4, ii_c5, ii_n1, ii_nn, kC0_v, kC1_v, kC2_v, kC3_v, kC0_x, kC1_x, kC2_x, not_true_eq_false, not_false_eq_true, ne_eq]
    split <;> rfl
theorem ge_nn {x : Int32} {j : Nat} (h : j < 2147483648) (e : x = Int32.ofNat j) : 0 ≤ x := by
  rw [e]; exact Int32.not_lt.mp (fun h2 => by rw [ii_nn h] at h2; exact h2)
theorem P_stillest {S : pS} {L : xA} {s τ : rT} {m n q : Nat} {l : List Nat} (I : Iv S L s τ m n q l) (hd : RD s τ) (w : Int32) : Pr m_L_stillest m_R_stillest [.int w] S := by
  have I' := I; obtain ⟨D, A, hx, hr, ho, ⟨C, Cr, ⟨q1, q2, q3⟩, hy, hdy, hdk, xl, rl, hb1, hb2⟩, ⟨⟨tk, k1, k2, k3⟩, tb, tf, tr⟩, ⟨e48, hsc⟩, rc⟩ := I'; have C' := C; have Cr' := Cr; obtain ⟨hm, h8, hn, h6⟩ := C'; obtain ⟨hm', -, hn', -⟩ := Cr'
  have hL := (cR (d := 199) (M := m_L_stillest) (as := [.ref 0, .int w, .ref 58]) (s := S)).trans (B_L_stillest_0 _ _ _ _ _)
  by_cases h0_ : (0 : Int32) ≤ w ∧ w ≤ 1
  · obtain ⟨w, lw, rfl⟩ := ii_ex (n := 2) (by decide) (Int32.le_trans (show (0 : Int32) ≤ 0 by decide) h0_.1) (Int32.lt_of_le_of_lt h0_.2 (by decide))
    exact P_q I hd hL ⟨s, Kf.rf _ _ s, Y_stillest 193 D C (fun k hk => by obtain ⟨-, -, ⟨d, d1, -, d2⟩, -⟩ := hsc; obtain ⟨j, j1, j2⟩ := d2 k hk; exact ge_nn (by omega) j2) w (by omega) h0_⟩ (fun b => ⟨wF τ 0 0, e_T0 τ, rfl, by rw [e48]; exact R_stillest 194 b τ Cr w (by omega) h0_⟩)
  · have ya : ∀ d, vcall (d + 4) m_Y_stillest [.ref 0, .int w] (xS S L s) = xA0 S L s := fun d => by
      refine (vY D rfl).trans ((B_Y_stillest_0 _ _ _ _).trans ?_)
      rw [nR_no (d + 1) D h0_]
      rfl
    have ra : ∀ d b, vcall (d + 3) m_R_stillest [.ref 30, .int w] (mS b τ) = some (.inl (some (.int 0)), mS b (rN τ 1 1)) := fun d b => by
      refine (vR rfl).trans ((B_R_stillest_0 _ _ _ _).trans ?_)
      simp only [m_pF, obs, rw_no (d + 1) _ h0_, rm_n1 (d + 1) (show (1 : Int32) ≠ 0 by decide), kC1_v, i10, eq_self, if_true, if_false, not_true_eq_false, not_false_eq_true]
    exact P_a (k := 1) I hd hL (fun _ _ => rfl) (by decide) (ya 195) (ra 197)
theorem P_hungriest {S : pS} {L : xA} {s τ : rT} {m n q : Nat} {l : List Nat} (I : Iv S L s τ m n q l) (hd : RD s τ) (w : Int32) : Pr m_L_hungriest m_R_hungriest [.int w] S := by
  have I' := I; obtain ⟨D, A, hx, hr, ho, ⟨C, Cr, ⟨q1, q2, q3⟩, hy, hdy, hdk, xl, rl, hb1, hb2⟩, ⟨⟨tk, k1, k2, k3⟩, tb, tf, tr⟩, ⟨e48, hsc⟩, rc⟩ := I'; have C' := C; have Cr' := Cr; obtain ⟨hm, h8, hn, h6⟩ := C'; obtain ⟨hm', -, hn', -⟩ := Cr'
  have hL := (cR (d := 199) (M := m_L_hungriest) (as := [.ref 0, .int w, .ref 58]) (s := S)).trans (B_L_hungriest_0 _ _ _ _ _)
  by_cases h0_ : (0 : Int32) ≤ w ∧ w ≤ 1
  · obtain ⟨w, lw, rfl⟩ := ii_ex (n := 2) (by decide) (Int32.le_trans (show (0 : Int32) ≤ 0 by decide) h0_.1) (Int32.lt_of_le_of_lt h0_.2 (by decide))
    exact P_q I hd hL ⟨s, Kf.rf _ _ s, Y_hungriest 193 D C (fun k hk => by obtain ⟨j, j1, j2⟩ := hsc.2.1 k hk; exact ge_nn (by omega) j2) w (by omega) h0_⟩ (fun b => ⟨wF τ 0 0, e_T0 τ, rfl, by rw [e48]; exact R_hungriest 194 b τ Cr w (by omega) h0_⟩)
  · have ya : ∀ d, vcall (d + 4) m_Y_hungriest [.ref 0, .int w] (xS S L s) = xA0 S L s := fun d => by
      refine (vY D rfl).trans ((B_Y_hungriest_0 _ _ _ _).trans ?_)
      rw [nR_no (d + 1) D h0_]
      rfl
    have ra : ∀ d b, vcall (d + 3) m_R_hungriest [.ref 30, .int w] (mS b τ) = some (.inl (some (.int 0)), mS b (rN τ 1 1)) := fun d b => by
      refine (vR rfl).trans ((B_R_hungriest_0 _ _ _ _).trans ?_)
      simp only [m_pF, obs, rw_no (d + 1) _ h0_, rm_n1 (d + 1) (show (1 : Int32) ≠ 0 by decide), kC1_v, i10, eq_self, if_true, if_false, not_true_eq_false, not_false_eq_true]
    exact P_a (k := 1) I hd hL (fun _ _ => rfl) (by decide) (ya 195) (ra 197)
theorem P_brightest {S : pS} {L : xA} {s τ : rT} {m n q : Nat} {l : List Nat} (I : Iv S L s τ m n q l) (hd : RD s τ) (w : Int32) : Pr m_L_brightest m_R_brightest [.int w] S := by
  have I' := I; obtain ⟨D, A, hx, hr, ho, ⟨C, Cr, ⟨q1, q2, q3⟩, hy, hdy, hdk, xl, rl, hb1, hb2⟩, ⟨⟨tk, k1, k2, k3⟩, tb, tf, tr⟩, ⟨e48, hsc⟩, rc⟩ := I'; have C' := C; have Cr' := Cr; obtain ⟨hm, h8, hn, h6⟩ := C'; obtain ⟨hm', -, hn', -⟩ := Cr'
  have hL := (cR (d := 199) (M := m_L_brightest) (as := [.ref 0, .int w, .ref 58]) (s := S)).trans (B_L_brightest_0 _ _ _ _ _)
  by_cases h0_ : (0 : Int32) ≤ w ∧ w ≤ 1
  · obtain ⟨w, lw, rfl⟩ := ii_ex (n := 2) (by decide) (Int32.le_trans (show (0 : Int32) ≤ 0 by decide) h0_.1) (Int32.lt_of_le_of_lt h0_.2 (by decide))
    exact P_q I hd hL ⟨s, Kf.rf _ _ s, Y_brightest 193 D C (fun k hk => by obtain ⟨j, j1, j2⟩ := hsc.2.2.2.2.2 (0 + k) (by omega); exact ge_nn (by omega) j2) w (by omega) h0_⟩ (fun b => ⟨wF τ 0 0, e_T0 τ, rfl, by rw [e48]; exact R_brightest 194 b τ Cr w (by omega) h0_⟩)
  · have ya : ∀ d, vcall (d + 4) m_Y_brightest [.ref 0, .int w] (xS S L s) = xA0 S L s := fun d => by
      refine (vY D rfl).trans ((B_Y_brightest_0 _ _ _ _).trans ?_)
      rw [nR_no (d + 1) D h0_]
      rfl
    have ra : ∀ d b, vcall (d + 3) m_R_brightest [.ref 30, .int w] (mS b τ) = some (.inl (some (.int 0)), mS b (rN τ 1 1)) := fun d b => by
      refine (vR rfl).trans ((B_R_brightest_0 _ _ _ _).trans ?_)
      simp only [m_pF, obs, rw_no (d + 1) _ h0_, rm_n1 (d + 1) (show (1 : Int32) ≠ 0 by decide), kC1_v, i10, eq_self, if_true, if_false, not_true_eq_false, not_false_eq_true]
    exact P_a (k := 1) I hd hL (fun _ _ => rfl) (by decide) (ya 195) (ra 197)
