/-! CALLS that ask: fault, status, count, told, seat, sitter, plate, sitting, mark, would, rising, gains -/
theorem e_T0 (τ : rT) : Er0 τ (wF τ 0 0) := (Kf.rf _ _ τ).wF (by decide) _
theorem e_T1 (τ : rT) : Er0 τ (wR (wF τ 0 0) 49 (τ.2 48)) := (e_T0 τ).wR (by decide) _
theorem P_fault {S : pS} {L : xA} {s τ : rT} {m n q : Nat} {l : List Nat} (I : Iv S L s τ m n q l) (hd : RD s τ) : Pd m_Y_fault m_R_fault [] S := by
  have I' := I; obtain ⟨D, A, hx, hr, ho, ⟨C, Cr, ⟨q1, q2, q3⟩, hy, hdy, hdk, xl, rl, hb1, hb2⟩, ⟨⟨tk, k1, k2, k3⟩, tb, tf, tr⟩, ⟨e48, hsc⟩, rc⟩ := I'; have C' := C; have Cr' := Cr; obtain ⟨hm, h8, hn, h6⟩ := C'; obtain ⟨hm', -, hn', -⟩ := Cr'
  refine P_dq (v := s.1 22) I hd ⟨s, Kf.rf _ _ s, (vY D rfl).trans ((B_Y_fault_0 _ _ _).trans ?_)⟩ (fun b => ⟨wF τ 0 0, ((Kf.rf _ _ τ).wF (by decide) _), (vR rfl).trans ((B_R_fault_0 _ _ _).trans ?_)⟩)
  · simp only [x0_gF D, x1_gF D, obs]
  · simp only [m_gF, m_gI, m_pI, m_gIl, m_pIl, ii_m1, ii_s1, m_pF, obs, wF_1, wF_2, wA_1, wA_2, wR_1, wR_2, Nat.reduceEqDiff, Nat.reduceAdd, Nat.reduceMul, if_true, if_false, ite_true, ite_false, ii_la, ii_al, ii_lm, ii_ml, ii_add, ii_mul, ii_1, ii_le, ii_lt, ii_c1, ii_c2, ii_c3, ii_c4, ii_c5, ii_n1, ii_nn, kC0_v, kC1_v, kC2_v, kC3_v, kC0_x, kC1_x, kC2_x, not_true_eq_false, not_false_eq_true, ne_eq, tf]
theorem R_status (d : Nat) (b : pS) (τ : rT) (w : Int32) : vcall (d + 2) m_R_status [.ref 30, .int w] (mS b τ) = some (.inl (some (.int (if w = 0 then τ.2 31 0 else if w = 1 then τ.2 31 1 else -1))), mS b (wF τ 0 0)) := by
  refine (vR rfl).trans ((B_R_status_0 _ _ _ _).trans ?_)
  simp only [m_pF, obs]
  by_cases h0 : w = 0
  · subst h0
    have h : (0 : Int32) ≤ 0 ∧ (0 : Int32) ≤ 1 := by decide
    rw [rw_ok d _ h]
    simp (disch := omega) only [m_gF, m_gI, m_pI, m_gIl, m_pIl, ii_m1, ii_s1, m_pF, obs, wF_1, wF_2, wA_1, wA_2, wR_1, wR_2, Nat.reduceEqDiff, Nat.reduceAdd, Nat.reduceMul, if_true, if_false, ite_true, ite_false, ii_la, ii_al, ii_lm, ii_ml, ii_add, ii_mul, ii_1, ii_le, ii_lt, ii_c1, ii_c2, ii_c3, ii_c4, ii_c5, ii_n1, ii_nn, kC0_v, kC1_v, kC2_v, kC3_v, kC0_x, kC1_x, kC2_x, not_true_eq_false, not_false_eq_true, ne_eq]
    rfl
  · by_cases h1 : w = 1
    · subst h1
      have h : (0 : Int32) ≤ 1 ∧ (1 : Int32) ≤ 1 := by decide
      rw [rw_ok d _ h]
      simp (disch := omega) only [m_gF, m_gI, m_pI, m_gIl, m_pIl, ii_m1, ii_s1, m_pF, obs, wF_1, wF_2, wA_1, wA_2, wR_1, wR_2, Nat.reduceEqDiff, Nat.reduceAdd, Nat.reduceMul, if_true, if_false, ite_true, ite_false, ii_la, ii_al, ii_lm, ii_ml, ii_add, ii_mul, ii_1, ii_le, ii_lt, ii_c1, ii_c2, ii_c3, ii_c4, ii_c5, ii_n1, ii_nn, kC0_v, kC1_v, kC2_v, kC3_v, kC0_x, kC1_x, kC2_x, not_true_eq_false, not_false_eq_true, ne_eq]
      rfl
    · rw [rw_no d _ (fun h => ?_)]
      · simp only [h0, h1, if_false]; rfl
      · obtain ⟨k, hk, e⟩ := ii_ex (n := 2) (by decide) h.1 (Int32.lt_of_le_of_lt h.2 (by decide))
        have : k = 0 ∨ k = 1 := by omega
        rcases this with rfl | rfl
        · exact h0 e
        · exact h1 e
theorem P_status {S : pS} {L : xA} {s τ : rT} {m n q : Nat} {l : List Nat} (I : Iv S L s τ m n q l) (hd : RD s τ) (w : Int32) : Pd m_Y_status m_R_status [.int w] S := by
  have I' := I; obtain ⟨D, A, hx, hr, ho, ⟨C, Cr, ⟨q1, q2, q3⟩, hy, hdy, hdk, xl, rl, hb1, hb2⟩, ⟨⟨tk, k1, k2, k3⟩, tb, tf, tr⟩, ⟨e48, hsc⟩, rc⟩ := I'; have C' := C; have Cr' := Cr; obtain ⟨hm, h8, hn, h6⟩ := C'; obtain ⟨hm', -, hn', -⟩ := Cr'
  have e : ∀ b, vcall 200 m_R_status [.ref 30, .int w] (mS b τ) = some (.inl (some (.int (if w = 0 then s.1 12 else if w = 1 then s.1 13 else -1))), mS b (wF τ 0 0)) := fun b => by rw [hd.1, hd.2]; exact R_status 198 b τ w
  refine P_dq I hd ⟨s, Kf.rf _ _ s, (vY D rfl).trans ((B_Y_status_0 _ _ _ _).trans ?_)⟩ (fun b => ⟨wF τ 0 0, ((Kf.rf _ _ τ).wF (by decide) _), e b⟩)
  simp only [x0_gF D, obs]
  split
  · rfl
  · split <;> rfl
theorem P_count {S : pS} {L : xA} {s τ : rT} {m n q : Nat} {l : List Nat} (I : Iv S L s τ m n q l) (hd : RD s τ) (w : Int32) : Pd m_Y_count m_R_count [.int w] S := by
  have I' := I; obtain ⟨D, A, hx, hr, ho, ⟨C, Cr, ⟨q1, q2, q3⟩, hy, hdy, hdk, xl, rl, hb1, hb2⟩, ⟨⟨tk, k1, k2, k3⟩, tb, tf, tr⟩, ⟨e48, hsc⟩, rc⟩ := I'; have C' := C; have Cr' := Cr; obtain ⟨hm, h8, hn, h6⟩ := C'; obtain ⟨hm', -, hn', -⟩ := Cr'
  obtain ⟨⟨ws, a1, a2, -⟩, g, b1, b2, b3, -⟩ := rc
  refine P_dq (v := if w = 0 then s.1 10 else if w = 1 then s.1 21 else if w = 2 then s.1 9 else -1) I hd ⟨s, Kf.rf _ _ s, (vY D rfl).trans ((B_Y_count_0 _ _ _ _).trans ?_)⟩ (fun b => ⟨wF τ 0 0, ((Kf.rf _ _ τ).wF (by decide) _), (vR rfl).trans ((B_R_count_0 _ _ _ _).trans ?_)⟩)
  · simp only [x0_gF D, x1_gF D, obs]
    split
    · rfl
    · split
      · rfl
      · split <;> rfl
  · simp only [m_gF, m_gI, m_pI, m_gIl, m_pIl, ii_m1, ii_s1, m_pF, obs, wF_1, wF_2, wA_1, wA_2, wR_1, wR_2, Nat.reduceEqDiff, Nat.reduceAdd, Nat.reduceMul, if_true, if_false, ite_true, ite_false, ii_la, ii_al, ii_lm, ii_ml, ii_add, ii_mul, ii_1, ii_le, ii_lt, ii_c1, ii_c2, ii_c3, ii_c4, ii_c5, ii_n1, ii_nn, kC0_v, kC1_v, kC2_v, kC3_v, kC0_x, kC1_x, kC2_x, not_true_eq_false, not_false_eq_true, ne_eq, a1, a2, b2, b3, k2, k3]
    by_cases h0 : w = 0
    · simp [h0]
    · by_cases h1 : w = 1
      · simp [h1]
      · by_cases h2 : w = 2 <;> simp [h0, h1, h2]
def toldV (s : rT) (m n j : Nat) : Int32 := if j = 0 then Int32.ofNat m else if j = 1 then Int32.ofNat n else if j = 2 then s.1 46 else if j = 3 then s.2 0 75 else if j = 4 then s.2 0 74 else if j = 5 then sSits n (s.2 0) else if j = 6 then s.1 62 else if j = 7 then s.1 11 else if j = 8 then sPlate m n (s.2 0) else if j = 9 then sUnseen m n (s.2 0) else s.1 47
theorem Y_told (d : Nat) {b : pS} {L : xA} {s : rT} {m n : Nat} (D : Dj L) (C : Cn s m n) (j : Nat) (hj : j < 11) : vcall (d + 7) m_Y_told [.ref 0, .int (Int32.ofNat j)] (xS b L s) = some (.inl (some (.int (toldV s m n j))), xS b L s) := by
  have C' := C
  obtain ⟨hm, h8, hn, h6⟩ := C'
  refine (vY D rfl).trans ((B_Y_told_0 _ _ _ _).trans ?_)
  have : j = 0 ∨ j = 1 ∨ j = 2 ∨ j = 3 ∨ j = 4 ∨ j = 5 ∨ j = 6 ∨ j = 7 ∨ j = 8 ∨ j = 9 ∨ j = 10 := by omega
  rcases this with rfl | rfl | rfl | rfl | rfl | rfl | rfl | rfl | rfl | rfl | rfl
  all_goals simp (disch := omega) only [x0_gF D, sn_gF (SN_p D), sn_gI (SN_p D), xu_gF D, xu_gI D, xk_gF D, xk_gI D, x1_gF D, pl_ix, ii_m1, ii_s1, obs, wF_1, wF_2, wA_1, wA_2, wR_1, wR_2, Nat.reduceEqDiff, Nat.reduceAdd, Nat.reduceMul, if_true, if_false, ite_true, ite_false, ii_la, ii_al, ii_lm, ii_ml, ii_add, ii_mul, ii_1, ii_le, ii_lt, ii_c1, ii_c2, ii_c3, ii_c4, ii_c5, ii_n1, ii_nn, kC0_v, kC1_v, kC2_v, kC3_v, kC0_x, kC1_x, kC2_x, not_true_eq_false, not_false_eq_true, ne_eq, hm, hn, toldV, c_S_whoSits (d + 4) (SN_p D) C, c_S_onPlate (d + 2) (SN_p D) C, c_S_unseen (d + 1) (SN_p D) C]
theorem R_told (d : Nat) (b : pS) (τ : rT) {s : rT} {m n q : Nat} (C : rCn τ m n) (e46 : τ.1 24 = s.1 46) (e0 : τ.2 48 = s.2 0) (e62 : τ.1 48 = s.1 62) (e11 : τ.1 38 = s.1 11) (e47 : τ.1 25 = s.1 47) (j : Nat) (hj : j < 11) : vcall (d + 4) m_R_told [.ref 30, .int (Int32.ofNat j)] (mS b τ) = some (.inl (some (.int (toldV s m n j))), mS b (wR (wF τ 0 0) 49 (τ.2 48))) := by
  obtain ⟨hm, h8, hn, h6⟩ := C
  have hm1 : (wR (wF τ 0 0) 49 (τ.2 48)).1 22 = Int32.ofNat m := hm
  have hn1 : (wR (wF τ 0 0) 49 (τ.2 48)).1 23 = Int32.ofNat n := hn
  have e : (wR (wF τ 0 0) 49 (τ.2 48)).2 49 = s.2 0 := by rw [wR_g]; exact e0
  refine (vR rfl).trans ((B_R_told_0 _ _ _ _).trans ?_)
  have : j = 0 ∨ j = 1 ∨ j = 2 ∨ j = 3 ∨ j = 4 ∨ j = 5 ∨ j = 6 ∨ j = 7 ∨ j = 8 ∨ j = 9 ∨ j = 10 := by omega
  have hw : (0 : Int32) ≤ Int32.ofNat j ∧ Int32.ofNat j ≤ 10 := by simp (disch := omega) only [ii_m1, ii_s1, obs, wF_1, wF_2, wA_1, wA_2, wR_1, wR_2, Nat.reduceEqDiff, Nat.reduceAdd, Nat.reduceMul, if_true, if_false, ite_true, ite_false, ii_la, ii_al, ii_lm, ii_ml, ii_add, ii_mul, ii_1, ii_le, ii_lt, ii_c1, ii_c2, ii_c3, ii_c4, ii_c5, ii_n1, ii_nn, kC0_v, kC1_v, kC2_v, kC3_v, kC0_x, kC1_x, kC2_x, not_true_eq_false, not_false_eq_true, ne_eq]; omega
  simp (disch := omega) only [m_pF, obs, rw_ok (d + 2) _ hw, kC1_v, kC0_v, rm_ok (d + 2), c_R_take (d + 1)]
  rw [if_pos (by decide), wF_2]
  rcases this with rfl | rfl | rfl | rfl | rfl | rfl | rfl | rfl | rfl | rfl | rfl
  all_goals simp (disch := omega) only [m_gF, m_gI, m_pI, m_gIl, m_pIl, ii_m1, ii_s1, m_pF, obs, wF_1, wF_2, wA_1, wA_2, wR_1, wR_2, Nat.reduceEqDiff, Nat.reduceAdd, Nat.reduceMul, if_true, if_false, ite_true, ite_false, ii_la, ii_al, ii_lm, ii_ml, ii_add, ii_mul, ii_1, ii_le, ii_lt, ii_c1, ii_c2, ii_c3, ii_c4, ii_c5, ii_n1, ii_nn, kC0_v, kC1_v, kC2_v, kC3_v, kC0_x, kC1_x, kC2_x, not_true_eq_false, not_false_eq_true, ne_eq, Nat.reduceLeDiff, Nat.reduceLT, Nat.reduceSubDiff, hm, hn, toldV, c_R_sitsAll (d + 2) b _ n hn1 h6, c_R_allOnPlate (d + 1) b _ m n hm1 h8 hn1 h6, c_R_unseen d b _ m n hm1 h8 hn1 h6, e46, e62, e11, e47]
  all_goals simp only [e0]
theorem P_told {S : pS} {L : xA} {s τ : rT} {m n q : Nat} {l : List Nat} (I : Iv S L s τ m n q l) (hd : RD s τ) (w : Int32) : Pr m_L_told m_R_told [.int w] S := by
  have I' := I; obtain ⟨D, A, hx, hr, ho, ⟨C, Cr, ⟨q1, q2, q3⟩, hy, hdy, hdk, xl, rl, hb1, hb2⟩, ⟨⟨tk, k1, k2, k3⟩, tb, tf, tr⟩, ⟨e48, hsc⟩, rc⟩ := I'; have C' := C; have Cr' := Cr; obtain ⟨hm, h8, hn, h6⟩ := C'; obtain ⟨hm', -, hn', -⟩ := Cr'
  have hL := (cR (d := 199) (M := m_L_told) (as := [.ref 0, .int w, .ref 58]) (s := S)).trans (B_L_told_0 _ _ _ _ _)
  by_cases h : 0 ≤ w ∧ w ≤ 10
  · obtain ⟨j, hj, rfl⟩ := ii_ex (n := 11) (by decide) h.1 (Int32.lt_of_le_of_lt h.2 (by decide))
    obtain ⟨y, -, -, y1, y2⟩ := hy
    exact P_q I hd hL ⟨s, Kf.rf _ _ s, Y_told 192 D C j hj⟩ (fun b => ⟨wR (wF τ 0 0) 49 (τ.2 48), e_T1 τ, rfl, R_told 196 b τ (q := q) Cr (by rw [q1, q2]) e48.symm hb1.symm tr.symm (by rw [y1, y2]) j hj⟩)
  · have ya : ∀ d, vcall (d + 3) m_Y_told [.ref 0, .int w] (xS S L s) = xA0 S L s := fun d => by
      refine (vY D rfl).trans ((B_Y_told_0 _ _ _ _).trans ?_)
      have hne : ∀ k : Nat, k ≤ 10 → ¬ w = Int32.ofNat k := fun k hk e => h (by subst e; simp (disch := omega) only [ii_m1, ii_s1, obs, wF_1, wF_2, wA_1, wA_2, wR_1, wR_2, Nat.reduceEqDiff, Nat.reduceAdd, Nat.reduceMul, if_true, if_false, ite_true, ite_false, ii_la, ii_al, ii_lm, ii_ml, ii_add, ii_mul, ii_1, ii_le, ii_lt, ii_c1, ii_c2, ii_c3, ii_c4, ii_c5, ii_n1, ii_nn, kC0_v, kC1_v, kC2_v, kC3_v, kC0_x, kC1_x, kC2_x, not_true_eq_false, not_false_eq_true, ne_eq]; omega)
      rw [if_neg (show ¬ w = 0 from hne 0 (by decide)), if_neg (show ¬ w = 1 from hne 1 (by decide)), if_neg (show ¬ w = 2 from hne 2 (by decide)), if_neg (show ¬ w = 3 from hne 3 (by decide)), if_neg (show ¬ w = 4 from hne 4 (by decide)), if_neg (show ¬ w = 5 from hne 5 (by decide)), if_neg (show ¬ w = 6 from hne 6 (by decide)), if_neg (show ¬ w = 7 from hne 7 (by decide)), if_neg (show ¬ w = 8 from hne 8 (by decide)), if_neg (show ¬ w = 9 from hne 9 (by decide)), if_neg (show ¬ w = 10 from hne 10 (by decide)), c_Y_refA (d + 1) D]
      rfl
    have ra : ∀ d b, vcall (d + 2) m_R_told [.ref 30, .int w] (mS b τ) = some (.inl (some (.int 0)), mS b (rN τ 1 1)) := fun d b => by
      refine (vR rfl).trans ((B_R_told_0 _ _ _ _).trans ?_)
      simp only [m_pF, obs, rw_no d _ h, kC1_v, rm_n1 d (show (1 : Int32) ≠ 0 by decide)]
      rfl
    exact P_a (k := 1) I hd hL (fun _ _ => rfl) (by decide) (ya 196) (ra 198)
theorem i10 : ((1 : Int32) = 0) = False := eq_false (by decide)
theorem c_R_ofHim (d : Nat) (b : pS) (τ : rT) {m n : Nat} (C : rCn τ m n) (p : Nat) (hp : p < 6) (w : Nat) (hw : w = 5 ∨ w = 6 ∨ w = 7) : vcall (d + 3) m_R_ofHim [.ref 30, .int (Int32.ofNat p), .int (Int32.ofNat w)] (mS b τ) = some (.inl (some (.int (if w = 7 then sAllOf m (τ.2 49) p else if w = 6 then sWhere m n (τ.2 49) p else sSelves m (τ.2 49) p))), mS b τ) := by
  obtain ⟨hm, h8, hn, h6⟩ := C
  obtain ⟨x, e, i⟩ := ex_loop (F := fun k (x : Int32 × Value) => den (d + 2) m_R_ofHim 5 [.ref 30, .int (Int32.ofNat p), .int (Int32.ofNat w), .int x.1, .int (Int32.ofNat k), x.2] [] (mS b τ)) (I := fun k x => x.1 = if w = 7 then sAllOf k (τ.2 49) p else if w = 6 then sWhere k n (τ.2 49) p else sSelves k (τ.2 49) p) m (0, mk0) (by rcases hw with rfl | rfl | rfl <;> rfl) (fun k x hk hx => by
    refine ⟨(if w = 7 then sAllOf (k + 1) (τ.2 49) p else if w = 6 then sWhere (k + 1) n (τ.2 49) p else sSelves (k + 1) (τ.2 49) p, .int (τ.2 49 (26 + 6 * k + p))), ?_, rfl⟩
    dsimp only
    rw [hx, B_R_ofHim_5]
    have es := c_R_seenOn d b τ n hn h6 k (by omega)
    rcases hw with rfl | rfl | rfl
    · simp (disch := omega) only [m_gF, m_gI, m_pI, m_gIl, m_pIl, ii_m1, ii_s1, m_pF, obs, wF_1, wF_2, wA_1, wA_2, wR_1, wR_2, Nat.reduceEqDiff, Nat.reduceAdd, Nat.reduceMul, if_true, if_false, ite_true, ite_false, ii_la, ii_al, ii_lm, ii_ml, ii_add, ii_mul, ii_1, ii_le, ii_lt, ii_c1, ii_c2, ii_c3, ii_c4, ii_c5, ii_n1, ii_nn, kC0_v, kC1_v, kC2_v, kC3_v, kC0_x, kC1_x, kC2_x, not_true_eq_false, not_false_eq_true, ne_eq, hm]
      rw [if_neg (by omega)]
      show _ = den (d + 2) m_R_ofHim 5 [_, _, _, .int (if 0 < τ.2 49 (26 + 6 * k + p) then sSelves k (τ.2 49) p ||| (1 <<< (Int32.ofNat k &&& 31)) else sSelves k (τ.2 49) p), _, _] [] _
      by_cases h : τ.2 49 (26 + 6 * k + p) ≤ 0
      · rw [if_pos h, if_neg (Int32.not_lt.mpr h)]
      · rw [if_neg h, if_pos (Int32.not_le.mp h), B_R_ofHim_69, ii_1]
    · simp (disch := omega) only [m_gF, m_gI, m_pI, m_gIl, m_pIl, ii_m1, ii_s1, m_pF, obs, wF_1, wF_2, wA_1, wA_2, wR_1, wR_2, Nat.reduceEqDiff, Nat.reduceAdd, Nat.reduceMul, if_true, if_false, ite_true, ite_false, ii_la, ii_al, ii_lm, ii_ml, ii_add, ii_mul, ii_1, ii_le, ii_lt, ii_c1, ii_c2, ii_c3, ii_c4, ii_c5, ii_n1, ii_nn, kC0_v, kC1_v, kC2_v, kC3_v, kC0_x, kC1_x, kC2_x, not_true_eq_false, not_false_eq_true, ne_eq, hm, es]
      rw [if_neg (by omega)]
      show _ = den (d + 2) m_R_ofHim 5 [_, _, _, .int (if sSeen n (τ.2 49) k = Int32.ofNat p then sWhere k n (τ.2 49) p ||| (1 <<< (Int32.ofNat k &&& 31)) else sWhere k n (τ.2 49) p), _, _] [] _
      by_cases h : sSeen n (τ.2 49) k = Int32.ofNat p
      · simp only [h, if_true, not_true_eq_false, if_false, B_R_ofHim_69, ii_1]
      · simp only [h, if_false, not_false_eq_true, if_true]
    · simp (disch := omega) only [m_gF, m_gI, m_pI, m_gIl, m_pIl, ii_m1, ii_s1, m_pF, obs, wF_1, wF_2, wA_1, wA_2, wR_1, wR_2, Nat.reduceEqDiff, Nat.reduceAdd, Nat.reduceMul, if_true, if_false, ite_true, ite_false, ii_la, ii_al, ii_lm, ii_ml, ii_add, ii_mul, ii_1, ii_le, ii_lt, ii_c1, ii_c2, ii_c3, ii_c4, ii_c5, ii_n1, ii_nn, kC0_v, kC1_v, kC2_v, kC3_v, kC0_x, kC1_x, kC2_x, not_true_eq_false, not_false_eq_true, ne_eq, hm]
      rw [if_neg (by omega)]
      rfl)
  refine (vR rfl).trans ((B_R_ofHim_0 _ _ _ _ _).trans (e.trans ?_))
  rw [B_R_ofHim_5, i]
  simp (disch := omega) only [m_gF, m_gI, m_pI, m_gIl, m_pIl, ii_m1, ii_s1, m_pF, obs, wF_1, wF_2, wA_1, wA_2, wR_1, wR_2, Nat.reduceEqDiff, Nat.reduceAdd, Nat.reduceMul, if_true, if_false, ite_true, ite_false, ii_la, ii_al, ii_lm, ii_ml, ii_add, ii_mul, ii_1, ii_le, ii_lt, ii_c1, ii_c2, ii_c3, ii_c4, ii_c5, ii_n1, ii_nn, kC0_v, kC1_v, kC2_v, kC3_v, kC0_x, kC1_x, kC2_x, not_true_eq_false, not_false_eq_true, ne_eq, hm]
  rw [if_pos (Nat.le_refl m)]
def seatV (n : Nat) (v : Nat → Int32) (t j : Nat) : Int32 := if j = 0 then v t else if j = 1 then sOn n v (Int32.ofNat t) else if j = 2 then sAll n v t else sSeen n v t
theorem Y_seat (d : Nat) {b : pS} {L : xA} {s : rT} {m n : Nat} (D : Dj L) (C : Cn s m n) (t j : Nat) (ht : t < m) (hj : j < 4) : vcall (d + 6) m_Y_seat [.ref 0, .int (Int32.ofNat t), .int (Int32.ofNat j)] (xS b L s) = some (.inl (some (.int (seatV n (s.2 0) t j))), xS b L s) := by
  have C' := C
  obtain ⟨hm, h8, hn, h6⟩ := C'
  refine (vY D rfl).trans ((B_Y_seat_0 _ _ _ _ _).trans ?_)
  rw [nS_ok (d + 3) D hm h8 ht, kC0_v]
  have : j = 0 ∨ j = 1 ∨ j = 2 ∨ j = 3 := by omega
  rcases this with rfl | rfl | rfl | rfl
  all_goals simp (disch := omega) only [x0_gF D, sn_gF (SN_p D), sn_gI (SN_p D), xu_gF D, xu_gI D, xk_gF D, xk_gI D, x1_gF D, pl_ix, ii_m1, ii_s1, obs, wF_1, wF_2, wA_1, wA_2, wR_1, wR_2, Nat.reduceEqDiff, Nat.reduceAdd, Nat.reduceMul, if_true, if_false, ite_true, ite_false, ii_la, ii_al, ii_lm, ii_ml, ii_add, ii_mul, ii_1, ii_le, ii_lt, ii_c1, ii_c2, ii_c3, ii_c4, ii_c5, ii_n1, ii_nn, kC0_v, kC1_v, kC2_v, kC3_v, kC0_x, kC1_x, kC2_x, not_true_eq_false, not_false_eq_true, ne_eq, seatV, c_S_whoIsOn (d + 4) (SN_p D) C, c_S_onSeat (d + 2) (SN_p D) C, c_S_seenOn (d + 1) (SN_p D) C, Nat.zero_add]
theorem R_seat (d : Nat) (b : pS) (τ : rT) {m n : Nat} (C : rCn τ m n) (t j : Nat) (ht : t < m) (hj : j < 4) : vcall (d + 4) m_R_seat [.ref 30, .int (Int32.ofNat t), .int (Int32.ofNat j)] (mS b τ) = some (.inl (some (.int (seatV n (τ.2 48) t j))), mS b (wR (wF τ 0 0) 49 (τ.2 48))) := by
  obtain ⟨hm, h8, hn, h6⟩ := C
  have hm1 : (wR (wF τ 0 0) 49 (τ.2 48)).1 22 = Int32.ofNat m := hm
  have hn1 : (wR (wF τ 0 0) 49 (τ.2 48)).1 23 = Int32.ofNat n := hn
  refine (vR rfl).trans ((B_R_seat_0 _ _ _ _ _).trans ?_)
  have hw : (0 : Int32) ≤ Int32.ofNat j ∧ Int32.ofNat j ≤ 3 := by simp (disch := omega) only [ii_m1, ii_s1, obs, wF_1, wF_2, wA_1, wA_2, wR_1, wR_2, Nat.reduceEqDiff, Nat.reduceAdd, Nat.reduceMul, if_true, if_false, ite_true, ite_false, ii_la, ii_al, ii_lm, ii_ml, ii_add, ii_mul, ii_1, ii_le, ii_lt, ii_c1, ii_c2, ii_c3, ii_c4, ii_c5, ii_n1, ii_nn, kC0_v, kC1_v, kC2_v, kC3_v, kC0_x, kC1_x, kC2_x, not_true_eq_false, not_false_eq_true, ne_eq]; omega
  simp (disch := omega) only [m_pF, obs, iS_ok (d + 1) hm h8 ht, rw_ok (d + 2) _ hw, kC1_v, kC0_v, rm_ok (d + 2), c_R_take (d + 1), i10, eq_self, if_false, if_true, not_false_eq_true, wF_2]
  have : j = 0 ∨ j = 1 ∨ j = 2 ∨ j = 3 := by omega
  rcases this with rfl | rfl | rfl | rfl
  all_goals simp (disch := omega) only [m_gF, m_gI, m_pI, m_gIl, m_pIl, ii_m1, ii_s1, m_pF, obs, wF_1, wF_2, wA_1, wA_2, wR_1, wR_2, Nat.reduceEqDiff, Nat.reduceAdd, Nat.reduceMul, if_true, if_false, ite_true, ite_false, ii_la, ii_al, ii_lm, ii_ml, ii_add, ii_mul, ii_1, ii_le, ii_lt, ii_c1, ii_c2, ii_c3, ii_c4, ii_c5, ii_n1, ii_nn, kC0_v, kC1_v, kC2_v, kC3_v, kC0_x, kC1_x, kC2_x, not_true_eq_false, not_false_eq_true, ne_eq, seatV, c_R_onSeat (d + 2) b _ n hn1 h6, c_R_allOn (d + 2) b _ n hn1 h6, c_R_seenOn (d + 1) b _ n hn1 h6, Nat.zero_add]
theorem P_seat {S : pS} {L : xA} {s τ : rT} {m n q : Nat} {l : List Nat} (I : Iv S L s τ m n q l) (hd : RD s τ) (t w : Int32) : Pr m_L_seat m_R_seat [.int t, .int w] S := by
  have I' := I; obtain ⟨D, A, hx, hr, ho, ⟨C, Cr, ⟨q1, q2, q3⟩, hy, hdy, hdk, xl, rl, hb1, hb2⟩, ⟨⟨tk, k1, k2, k3⟩, tb, tf, tr⟩, ⟨e48, hsc⟩, rc⟩ := I'; have C' := C; have Cr' := Cr; obtain ⟨hm, h8, hn, h6⟩ := C'; obtain ⟨hm', -, hn', -⟩ := Cr'
  have hL := (cR (d := 199) (M := m_L_seat) (as := [.ref 0, .int t, .int w, .ref 58]) (s := S)).trans (B_L_seat_0 _ _ _ _ _ _)
  by_cases h1 : 0 ≤ t ∧ t < Int32.ofNat m
  · obtain ⟨t, ht, rfl⟩ := ii_ex (by omega) h1.1 h1.2
    by_cases h : 0 ≤ w ∧ w ≤ 3
    · obtain ⟨j, hj, rfl⟩ := ii_ex (n := 4) (by decide) h.1 (Int32.lt_of_le_of_lt h.2 (by decide))
      exact P_q I hd hL ⟨s, Kf.rf _ _ s, Y_seat 193 D C t j ht hj⟩ (fun b => ⟨wR (wF τ 0 0) 49 (τ.2 48), e_T1 τ, rfl, by rw [e48]; exact R_seat 196 b τ Cr t j ht hj⟩)
    · have ya : ∀ d, vcall (d + 4) m_Y_seat [.ref 0, .int (Int32.ofNat t), .int w] (xS S L s) = xA0 S L s := fun d => by
        refine (vY D rfl).trans ((B_Y_seat_0 _ _ _ _ _).trans ?_)
        have hne : ∀ k : Nat, k ≤ 3 → ¬ w = Int32.ofNat k := fun k hk e => h (by subst e; simp (disch := omega) only [ii_m1, ii_s1, obs, wF_1, wF_2, wA_1, wA_2, wR_1, wR_2, Nat.reduceEqDiff, Nat.reduceAdd, Nat.reduceMul, if_true, if_false, ite_true, ite_false, ii_la, ii_al, ii_lm, ii_ml, ii_add, ii_mul, ii_1, ii_le, ii_lt, ii_c1, ii_c2, ii_c3, ii_c4, ii_c5, ii_n1, ii_nn, kC0_v, kC1_v, kC2_v, kC3_v, kC0_x, kC1_x, kC2_x, not_true_eq_false, not_false_eq_true, ne_eq]; omega)
        rw [nS_ok (d + 1) D hm h8 ht, kC0_v, if_neg (show ¬ w = 0 from hne 0 (by decide)), if_neg (show ¬ w = 1 from hne 1 (by decide)), if_neg (show ¬ w = 2 from hne 2 (by decide)), if_neg (show ¬ w = 3 from hne 3 (by decide)), c_Y_refA (d + 2) D]
        rfl
      have ra : ∀ d b, vcall (d + 3) m_R_seat [.ref 30, .int (Int32.ofNat t), .int w] (mS b τ) = some (.inl (some (.int 0)), mS b (rN τ 2 1)) := fun d b => by
        refine (vR rfl).trans ((B_R_seat_0 _ _ _ _ _).trans ?_)
        simp only [m_pF, obs, iS_ok d hm' h8 ht, rw_no (d + 1) _ h, kC1_v, rm_n1 (d + 1) (show (2 : Int32) ≠ 0 by decide), i10, eq_self, if_false, not_true_eq_false]
      exact P_a (k := 2) I hd hL (fun _ _ => rfl) (by decide) (ya 195) (ra 197)
  · have ya : ∀ d, vcall (d + 3) m_Y_seat [.ref 0, .int t, .int w] (xS S L s) = xE0 S L s := fun d => by
      refine (vY D rfl).trans ((B_Y_seat_0 _ _ _ _ _).trans ?_)
      rw [nS_no d D (by rw [hm]; exact h1)]
      rfl
    have ra : ∀ d b, vcall (d + 3) m_R_seat [.ref 30, .int t, .int w] (mS b τ) = some (.inl (some (.int 0)), mS b (rN τ 1 0)) := fun d b => by
      refine (vR rfl).trans ((B_R_seat_0 _ _ _ _ _).trans ?_)
      simp only [m_pF, obs, iS_no d hm' h8 h1 (show (1 : Int32) ≠ 0 by decide), kC1_v, i10, eq_self, if_true]
    exact P_e (k := 1) I hd hL (fun _ _ => rfl) (by decide) (ya 196) (ra 197)
def sitterV (m n : Nat) (dk fs v : Nat → Int32) (p j : Nat) : Int32 := if j = 0 then dk p else if j = 1 then fs p else if j = 2 then v (8 + p) else if j = 3 then v (14 + p) else if j = 4 then v (20 + p) else if j = 5 then sSelves m v p else if j = 6 then sWhere m n v p else sAllOf m v p
theorem Y_sitter (d : Nat) {b : pS} {L : xA} {s : rT} {m n : Nat} (D : Dj L) (C : Cn s m n) (p j : Nat) (hp : p < n) (hj : j < 8) : vcall (d + 6) m_Y_sitter [.ref 0, .int (Int32.ofNat p), .int (Int32.ofNat j)] (xS b L s) = some (.inl (some (.int (sitterV m n (s.2 12) (s.2 13) (s.2 0) p j))), xS b L s) := by
  have C' := C
  obtain ⟨hm, h8, hn, h6⟩ := C'
  refine (vY D rfl).trans ((B_Y_sitter_0 _ _ _ _ _).trans ?_)
  rw [nP_ok (d + 3) D hn (by omega) hp, kC0_v]
  have : j = 0 ∨ j = 1 ∨ j = 2 ∨ j = 3 ∨ j = 4 ∨ j = 5 ∨ j = 6 ∨ j = 7 := by omega
  rcases this with rfl | rfl | rfl | rfl | rfl | rfl | rfl | rfl
  all_goals simp (disch := omega) only [x0_gF D, sn_gF (SN_p D), sn_gI (SN_p D), xu_gF D, xu_gI D, xk_gF D, xk_gI D, x1_gF D, pl_ix, ii_m1, ii_s1, obs, wF_1, wF_2, wA_1, wA_2, wR_1, wR_2, Nat.reduceEqDiff, Nat.reduceAdd, Nat.reduceMul, if_true, if_false, ite_true, ite_false, ii_la, ii_al, ii_lm, ii_ml, ii_add, ii_mul, ii_1, ii_le, ii_lt, ii_c1, ii_c2, ii_c3, ii_c4, ii_c5, ii_n1, ii_nn, kC0_v, kC1_v, kC2_v, kC3_v, kC0_x, kC1_x, kC2_x, not_true_eq_false, not_false_eq_true, ne_eq, sitterV, c_S_selvesOf (d + 2) (SN_p D) C, c_S_whereSeen d (SN_p D) C, c_S_allOf (d + 2) (SN_p D) C]
theorem R_sitter (d : Nat) (b : pS) (τ : rT) {m n : Nat} (C : rCn τ m n) (p j : Nat) (hp : p < n) (hj : j < 8) : vcall (d + 4) m_R_sitter [.ref 30, .int (Int32.ofNat p), .int (Int32.ofNat j)] (mS b τ) = some (.inl (some (.int (sitterV m n (τ.2 37) (τ.2 38) (τ.2 48) p j))), mS b (wR (wF τ 0 0) 49 (τ.2 48))) := by
  have C1 : rCn (wR (wF τ 0 0) 49 (τ.2 48)) m n := C
  obtain ⟨hm, h8, hn, h6⟩ := C
  refine (vR rfl).trans ((B_R_sitter_0 _ _ _ _ _).trans ?_)
  have hw : (0 : Int32) ≤ Int32.ofNat j ∧ Int32.ofNat j ≤ 7 := by simp (disch := omega) only [ii_m1, ii_s1, obs, wF_1, wF_2, wA_1, wA_2, wR_1, wR_2, Nat.reduceEqDiff, Nat.reduceAdd, Nat.reduceMul, if_true, if_false, ite_true, ite_false, ii_la, ii_al, ii_lm, ii_ml, ii_add, ii_mul, ii_1, ii_le, ii_lt, ii_c1, ii_c2, ii_c3, ii_c4, ii_c5, ii_n1, ii_nn, kC0_v, kC1_v, kC2_v, kC3_v, kC0_x, kC1_x, kC2_x, not_true_eq_false, not_false_eq_true, ne_eq]; omega
  simp (disch := omega) only [m_pF, obs, iP_ok (d + 1) hn (show n ≤ 8 by omega) hp, rw_ok (d + 2) _ hw, kC1_v, kC0_v, rm_ok (d + 2), c_R_take (d + 1), i10, eq_self, if_false, if_true, not_false_eq_true, wF_2]
  have : j = 0 ∨ j = 1 ∨ j = 2 ∨ j = 3 ∨ j = 4 ∨ j = 5 ∨ j = 6 ∨ j = 7 := by omega
  rcases this with rfl | rfl | rfl | rfl | rfl | rfl | rfl | rfl
  all_goals simp (disch := omega) only [m_gF, m_gI, m_pI, m_gIl, m_pIl, ii_m1, ii_s1, m_pF, obs, wF_1, wF_2, wA_1, wA_2, wR_1, wR_2, Nat.reduceEqDiff, Nat.reduceAdd, Nat.reduceMul, if_true, if_false, ite_true, ite_false, ii_la, ii_al, ii_lm, ii_ml, ii_add, ii_mul, ii_1, ii_le, ii_lt, ii_c1, ii_c2, ii_c3, ii_c4, ii_c5, ii_n1, ii_nn, kC0_v, kC1_v, kC2_v, kC3_v, kC0_x, kC1_x, kC2_x, not_true_eq_false, not_false_eq_true, ne_eq, Nat.reduceLeDiff, Nat.reduceLT, Nat.reduceSubDiff, sitterV, c_R_ofHim d b _ C1 p (show p < 6 by omega)]
theorem P_sitter {S : pS} {L : xA} {s τ : rT} {m n q : Nat} {l : List Nat} (I : Iv S L s τ m n q l) (hd : RD s τ) (t w : Int32) : Pr m_L_sitter m_R_sitter [.int t, .int w] S := by
  have I' := I; obtain ⟨D, A, hx, hr, ho, ⟨C, Cr, ⟨q1, q2, q3⟩, hy, hdy, hdk, xl, rl, hb1, hb2⟩, ⟨⟨tk, k1, k2, k3⟩, tb, tf, tr⟩, ⟨e48, hsc⟩, rc⟩ := I'; have C' := C; have Cr' := Cr; obtain ⟨hm, h8, hn, h6⟩ := C'; obtain ⟨hm', -, hn', -⟩ := Cr'
  have hL := (cR (d := 199) (M := m_L_sitter) (as := [.ref 0, .int t, .int w, .ref 58]) (s := S)).trans (B_L_sitter_0 _ _ _ _ _ _)
  by_cases h1 : 0 ≤ t ∧ t < Int32.ofNat n
  · obtain ⟨t, ht, rfl⟩ := ii_ex (by omega) h1.1 h1.2
    by_cases h : 0 ≤ w ∧ w ≤ 7
    · obtain ⟨j, hj, rfl⟩ := ii_ex (n := 8) (by decide) h.1 (Int32.lt_of_le_of_lt h.2 (by decide))
      have ev : sitterV m n (s.2 12) (s.2 13) (s.2 0) t j = sitterV m n (τ.2 37) (τ.2 38) (τ.2 48) t j := by
        obtain ⟨d1, k, -, -, d2, d3⟩ := hdk t ht
        unfold sitterV
        rw [d1, d2, d3, e48]
      exact P_q I hd hL ⟨s, Kf.rf _ _ s, Y_sitter 193 D C t j ht hj⟩ (fun b => ⟨wR (wF τ 0 0) 49 (τ.2 48), e_T1 τ, rfl, by rw [ev]; exact R_sitter 196 b τ Cr t j ht hj⟩)
    · have ya : ∀ d, vcall (d + 4) m_Y_sitter [.ref 0, .int (Int32.ofNat t), .int w] (xS S L s) = xA0 S L s := fun d => by
        refine (vY D rfl).trans ((B_Y_sitter_0 _ _ _ _ _).trans ?_)
        have hne : ∀ k : Nat, k ≤ 7 → ¬ w = Int32.ofNat k := fun k hk e => h (by subst e; simp (disch := omega) only [ii_m1, ii_s1, obs, wF_1, wF_2, wA_1, wA_2, wR_1, wR_2, Nat.reduceEqDiff, Nat.reduceAdd, Nat.reduceMul, if_true, if_false, ite_true, ite_false, ii_la, ii_al, ii_lm, ii_ml, ii_add, ii_mul, ii_1, ii_le, ii_lt, ii_c1, ii_c2, ii_c3, ii_c4, ii_c5, ii_n1, ii_nn, kC0_v, kC1_v, kC2_v, kC3_v, kC0_x, kC1_x, kC2_x, not_true_eq_false, not_false_eq_true, ne_eq]; omega)
        rw [nP_ok (d + 1) D hn (by omega) ht, kC0_v, if_neg (show ¬ w = 0 from hne 0 (by decide)), if_neg (show ¬ w = 1 from hne 1 (by decide)), if_neg (show ¬ w = 2 from hne 2 (by decide)), if_neg (show ¬ w = 3 from hne 3 (by decide)), if_neg (show ¬ w = 4 from hne 4 (by decide)), if_neg (show ¬ w = 5 from hne 5 (by decide)), if_neg (show ¬ w = 6 from hne 6 (by decide)), if_neg (show ¬ w = 7 from hne 7 (by decide)), c_Y_refA (d + 2) D]
        rfl
      have ra : ∀ d b, vcall (d + 3) m_R_sitter [.ref 30, .int (Int32.ofNat t), .int w] (mS b τ) = some (.inl (some (.int 0)), mS b (rN τ 2 1)) := fun d b => by
        refine (vR rfl).trans ((B_R_sitter_0 _ _ _ _ _).trans ?_)
        simp only [m_pF, obs, iP_ok d hn' (show n ≤ 8 by omega) ht, rw_no (d + 1) _ h, kC1_v, rm_n1 (d + 1) (show (2 : Int32) ≠ 0 by decide), i10, eq_self, if_false, not_true_eq_false]
      exact P_a (k := 2) I hd hL (fun _ _ => rfl) (by decide) (ya 195) (ra 197)
  · have ya : ∀ d, vcall (d + 3) m_Y_sitter [.ref 0, .int t, .int w] (xS S L s) = xE0 S L s := fun d => by
      refine (vY D rfl).trans ((B_Y_sitter_0 _ _ _ _ _).trans ?_)
      rw [nP_no d D (by rw [hn]; exact h1)]
      rfl
    have ra : ∀ d b, vcall (d + 3) m_R_sitter [.ref 30, .int t, .int w] (mS b τ) = some (.inl (some (.int 0)), mS b (rN τ 1 0)) := fun d b => by
      refine (vR rfl).trans ((B_R_sitter_0 _ _ _ _ _).trans ?_)
      simp only [m_pF, obs, iP_no d hn' (show n ≤ 8 by omega) h1 (show (1 : Int32) ≠ 0 by decide), kC1_v, i10, eq_self, if_true]
    exact P_e (k := 1) I hd hL (fun _ _ => rfl) (by decide) (ya 196) (ra 197)
theorem Y_plate (d : Nat) {b : pS} {L : xA} {s : rT} {m n : Nat} (D : Dj L) (C : Cn s m n) (t p : Nat) (ht : t < m) (hp : p < n) : vcall (d + 6) m_Y_plate [.ref 0, .int (Int32.ofNat t), .int (Int32.ofNat p)] (xS b L s) = some (.inl (some (.int (s.2 0 (26 + 6 * t + p)))), xS b L s) := by
  obtain ⟨hm, h8, hn, h6⟩ := C
  refine (vY D rfl).trans ((B_Y_plate_0 _ _ _ _ _).trans ?_)
  simp (disch := omega) only [x0_gF D, sn_gF (SN_p D), sn_gI (SN_p D), xu_gF D, xu_gI D, xk_gF D, xk_gI D, x1_gF D, pl_ix, ii_m1, ii_s1, obs, wF_1, wF_2, wA_1, wA_2, wR_1, wR_2, Nat.reduceEqDiff, Nat.reduceAdd, Nat.reduceMul, if_true, if_false, ite_true, ite_false, ii_la, ii_al, ii_lm, ii_ml, ii_add, ii_mul, ii_1, ii_le, ii_lt, ii_c1, ii_c2, ii_c3, ii_c4, ii_c5, ii_n1, ii_nn, kC0_v, kC1_v, kC2_v, kC3_v, kC0_x, kC1_x, kC2_x, not_true_eq_false, not_false_eq_true, ne_eq, nS_ok (d + 3) D hm h8 ht, nP_ok (d + 3) D hn (show n ≤ 8 by omega) hp, c_S_amount (d + 3) (SN_p D)]
theorem R_plate (d : Nat) (b : pS) (τ : rT) {m n : Nat} (C : rCn τ m n) (t p : Nat) (ht : t < m) (hp : p < n) : vcall (d + 4) m_R_plate [.ref 30, .int (Int32.ofNat t), .int (Int32.ofNat p)] (mS b τ) = some (.inl (some (.int (τ.2 48 (26 + 6 * t + p)))), mS b (wF τ 0 0)) := by
  obtain ⟨hm, h8, hn, h6⟩ := C
  refine (vR rfl).trans ((B_R_plate_0 _ _ _ _ _).trans ?_)
  simp (disch := omega) only [m_gF, m_gI, m_pI, m_gIl, m_pIl, ii_m1, ii_s1, m_pF, obs, wF_1, wF_2, wA_1, wA_2, wR_1, wR_2, Nat.reduceEqDiff, Nat.reduceAdd, Nat.reduceMul, if_true, if_false, ite_true, ite_false, ii_la, ii_al, ii_lm, ii_ml, ii_add, ii_mul, ii_1, ii_le, ii_lt, ii_c1, ii_c2, ii_c3, ii_c4, ii_c5, ii_n1, ii_nn, kC0_v, kC1_v, kC2_v, kC3_v, kC0_x, kC1_x, kC2_x, not_true_eq_false, not_false_eq_true, ne_eq, iS_ok (d + 1) hm h8 ht, iP_ok (d + 1) hn (show n ≤ 8 by omega) hp, i10, eq_self]
theorem P_plate {S : pS} {L : xA} {s τ : rT} {m n q : Nat} {l : List Nat} (I : Iv S L s τ m n q l) (hd : RD s τ) (t : Int32) (p : Int32) : Pr m_L_plate m_R_plate [.int t, .int p] S := by
  have I' := I; obtain ⟨D, A, hx, hr, ho, ⟨C, Cr, ⟨q1, q2, q3⟩, hy, hdy, hdk, xl, rl, hb1, hb2⟩, ⟨⟨tk, k1, k2, k3⟩, tb, tf, tr⟩, ⟨e48, hsc⟩, rc⟩ := I'; have C' := C; have Cr' := Cr; obtain ⟨hm, h8, hn, h6⟩ := C'; obtain ⟨hm', -, hn', -⟩ := Cr'
  have hL := (cR (d := 199) (M := m_L_plate) (as := [.ref 0, .int t, .int p, .ref 58]) (s := S)).trans (B_L_plate_0 _ _ _ _ _ _)
  by_cases h0_ : 0 ≤ t ∧ t < Int32.ofNat m
  · obtain ⟨t, lt, rfl⟩ := ii_ex (by omega) h0_.1 h0_.2
    by_cases h1_ : 0 ≤ p ∧ p < Int32.ofNat n
    · obtain ⟨p, lp, rfl⟩ := ii_ex (by omega) h1_.1 h1_.2
      exact P_q I hd hL ⟨s, Kf.rf _ _ s, Y_plate 193 D C t p lt lp⟩ (fun b => ⟨wF τ 0 0, e_T0 τ, rfl, by rw [e48]; exact R_plate 196 b τ Cr t p lt lp⟩)
    · have ya : ∀ d, vcall (d + 4) m_Y_plate [.ref 0, .int (Int32.ofNat t), .int p] (xS S L s) = xE0 S L s := fun d => by
        refine (vY D rfl).trans ((B_Y_plate_0 _ _ _ _ _).trans ?_)
        simp only [nS_ok (d + 1) D hm h8 lt, kC0_v]
        rw [nP_no (d + 1) D (by rw [hn]; exact h1_)]
        rfl
      have ra : ∀ d b, vcall (d + 3) m_R_plate [.ref 30, .int (Int32.ofNat t), .int p] (mS b τ) = some (.inl (some (.int 0)), mS b (rN τ 1 0)) := fun d b => by
        refine (vR rfl).trans ((B_R_plate_0 _ _ _ _ _).trans ?_)
        simp only [m_pF, obs, iS_ok d hm' h8 lt, iP_no d hn' (show n ≤ 8 by omega) h1_ (show (1 : Int32) ≠ 0 by decide), kC1_v, i10, eq_self, if_true, if_false, not_true_eq_false, not_false_eq_true]
      exact P_e (k := 1) I hd hL (fun _ _ => rfl) (by decide) (ya 195) (ra 197)
  · have ya : ∀ d, vcall (d + 4) m_Y_plate [.ref 0, .int t, .int p] (xS S L s) = xE0 S L s := fun d => by
      refine (vY D rfl).trans ((B_Y_plate_0 _ _ _ _ _).trans ?_)
      rw [nS_no (d + 1) D (by rw [hm]; exact h0_)]
      rfl
    have ra : ∀ d b, vcall (d + 3) m_R_plate [.ref 30, .int t, .int p] (mS b τ) = some (.inl (some (.int 0)), mS b (rN τ 1 0)) := fun d b => by
      refine (vR rfl).trans ((B_R_plate_0 _ _ _ _ _).trans ?_)
      simp only [m_pF, obs, iS_no d hm' h8 h0_ (show (1 : Int32) ≠ 0 by decide), kC1_v, i10, eq_self, if_true, if_false, not_true_eq_false, not_false_eq_true]
    exact P_e (k := 1) I hd hL (fun _ _ => rfl) (by decide) (ya 195) (ra 197)
theorem Y_sitting (d : Nat) {b : pS} {L : xA} {s : rT} {q : Nat} (D : Dj L) (q1 : s.1 46 = Int32.ofNat q) (q3 : q ≤ 8) (t : Nat) (ht : t < q) : vcall (d + 6) m_Y_sitting [.ref 0, .int (Int32.ofNat t)] (xS b L s) = some (.inl (some (.int (s.2 14 t))), xS b L s) := by
  refine (vY D rfl).trans ((B_Y_sitting_0 _ _ _ _).trans ?_)
  simp (disch := omega) only [x0_gF D, sn_gF (SN_p D), sn_gI (SN_p D), xu_gF D, xu_gI D, xk_gF D, xk_gI D, x1_gF D, pl_ix, ii_m1, ii_s1, obs, wF_1, wF_2, wA_1, wA_2, wR_1, wR_2, Nat.reduceEqDiff, Nat.reduceAdd, Nat.reduceMul, if_true, if_false, ite_true, ite_false, ii_la, ii_al, ii_lm, ii_ml, ii_add, ii_mul, ii_1, ii_le, ii_lt, ii_c1, ii_c2, ii_c3, ii_c4, ii_c5, ii_n1, ii_nn, kC0_v, kC1_v, kC2_v, kC3_v, kC0_x, kC1_x, kC2_x, not_true_eq_false, not_false_eq_true, ne_eq, nQ_ok (d + 3) D q1 q3 ht]
theorem R_sitting (d : Nat) (b : pS) (τ : rT) {q : Nat} (q1 : τ.1 24 = Int32.ofNat q) (q3 : q ≤ 8) (t : Nat) (ht : t < q) : vcall (d + 4) m_R_sitting [.ref 30, .int (Int32.ofNat t)] (mS b τ) = some (.inl (some (.int (τ.2 39 t))), mS b (wF τ 0 0)) := by
  have h : (0 : Int32) ≤ Int32.ofNat t ∧ Int32.ofNat t ≤ Int32.ofNat q - 1 := by rw [rg_m (by omega)]; simp (disch := omega) only [ii_m1, ii_s1, obs, wF_1, wF_2, wA_1, wA_2, wR_1, wR_2, Nat.reduceEqDiff, Nat.reduceAdd, Nat.reduceMul, if_true, if_false, ite_true, ite_false, ii_la, ii_al, ii_lm, ii_ml, ii_add, ii_mul, ii_1, ii_le, ii_lt, ii_c1, ii_c2, ii_c3, ii_c4, ii_c5, ii_n1, ii_nn, kC0_v, kC1_v, kC2_v, kC3_v, kC0_x, kC1_x, kC2_x, not_true_eq_false, not_false_eq_true, ne_eq]; omega
  refine (vR rfl).trans ((B_R_sitting_0 _ _ _ _).trans ?_)
  simp (disch := omega) only [m_gF, m_gI, m_pF, obs, wF_1, wF_2, Nat.reduceEqDiff, if_false, kC1_v, q1, rw_ok (d + 2) _ h, rm_ok (d + 2), i10, eq_self]
theorem P_sitting {S : pS} {L : xA} {s τ : rT} {m n q : Nat} {l : List Nat} (I : Iv S L s τ m n q l) (hd : RD s τ) (t : Int32) : Pr m_L_sitting m_R_sitting [.int t] S := by
  have I' := I; obtain ⟨D, A, hx, hr, ho, ⟨C, Cr, ⟨q1, q2, q3⟩, hy, hdy, hdk, xl, rl, hb1, hb2⟩, ⟨⟨tk, k1, k2, k3⟩, tb, tf, tr⟩, ⟨e48, hsc⟩, rc⟩ := I'; have C' := C; have Cr' := Cr; obtain ⟨hm, h8, hn, h6⟩ := C'; obtain ⟨hm', -, hn', -⟩ := Cr'
  have hL := (cR (d := 199) (M := m_L_sitting) (as := [.ref 0, .int t, .ref 58]) (s := S)).trans (B_L_sitting_0 _ _ _ _ _)
  by_cases h0_ : 0 ≤ t ∧ t < Int32.ofNat q
  · obtain ⟨t, lt, rfl⟩ := ii_ex (by omega) h0_.1 h0_.2
    have ev : s.2 14 t = τ.2 39 t := by obtain ⟨j, -, -, e1, e2⟩ := hdy t lt; rw [e1, e2]
    exact P_q I hd hL ⟨s, Kf.rf _ _ s, Y_sitting 193 D q1 q3 t lt⟩ (fun b => ⟨wF τ 0 0, e_T0 τ, rfl, by rw [ev]; exact R_sitting 196 b τ q2 q3 t lt⟩)
  · have ya : ∀ d, vcall (d + 4) m_Y_sitting [.ref 0, .int t] (xS S L s) = xE0 S L s := fun d => by
      refine (vY D rfl).trans ((B_Y_sitting_0 _ _ _ _).trans ?_)
      rw [nQ_no (d + 1) D (by rw [q1]; exact h0_)]
      rfl
    have ra : ∀ d b, vcall (d + 3) m_R_sitting [.ref 30, .int t] (mS b τ) = some (.inl (some (.int 0)), mS b (rN τ 1 0)) := fun d b => by
      refine (vR rfl).trans ((B_R_sitting_0 _ _ _ _).trans ?_)
      have hz_q : (wF τ 0 0).1 24 = Int32.ofNat q := q2
      rw [← rg_m (by omega)] at h0_
      simp only [m_pF, obs, m_gF, hz_q, rw_no (d + 1) _ h0_, rm_n0 (d + 1) (show (1 : Int32) ≠ 0 by decide), kC1_v, i10, eq_self, if_true, if_false, not_true_eq_false, not_false_eq_true]
    exact P_e (k := 1) I hd hL (fun _ _ => rfl) (by decide) (ya 195) (ra 197)
theorem Ex0.k {s s' : rT} (h : Kf [] [22, 23] s s') : Ex0 s s' := Kf.up h (by decide) (by decide)
theorem Y_mark (d : Nat) {b : pS} {L : xA} {s : rT} {m n : Nat} {l : List Nat} (D : Dj L) (C : Cn s m n) (xl : xLaw s l) (K : Sok m n (s.2 0)) (p : Nat) (hp : p < n) : ∃ s', Ex0 s s' ∧ vcall (d + 6) m_Y_mark [.ref 0, .int (Int32.ofNat p)] (xS b L s) = some (.inl (some (.int (mkB l n (s.2 12) (s.2 0) p))), xS b L s') := by
  obtain ⟨s', k, e⟩ := c_S_markToday (d + 1) (b := b) (SN_p D) xl C K p hp
  obtain ⟨hm, h8, hn, h6⟩ := C
  refine ⟨s', Ex0.k k, (vY D rfl).trans ((B_Y_mark_0 _ _ _ _).trans ?_)⟩
  simp (disch := omega) only [x0_gF D, sn_gF (SN_p D), sn_gI (SN_p D), xu_gF D, xu_gI D, xk_gF D, xk_gI D, x1_gF D, pl_ix, ii_m1, ii_s1, obs, wF_1, wF_2, wA_1, wA_2, wR_1, wR_2, Nat.reduceEqDiff, Nat.reduceAdd, Nat.reduceMul, if_true, if_false, ite_true, ite_false, ii_la, ii_al, ii_lm, ii_ml, ii_add, ii_mul, ii_1, ii_le, ii_lt, ii_c1, ii_c2, ii_c3, ii_c4, ii_c5, ii_n1, ii_nn, kC0_v, kC1_v, kC2_v, kC3_v, kC0_x, kC1_x, kC2_x, not_true_eq_false, not_false_eq_true, ne_eq, nP_ok (d + 3) D hn (show n ≤ 8 by omega) hp, e]
theorem R_mark (d : Nat) (b : pS) (τ : rT) {m n : Nat} {l : List Nat} (C : rCn τ m n) (rl : rLaw τ l) (K : Sok m n (τ.2 48)) (p : Nat) (hp : p < n) : ∃ τ', Er0 τ τ' ∧ τ'.1 0 = 0 ∧ vcall (d + 6) m_R_mark [.ref 30, .int (Int32.ofNat p)] (mS b τ) = some (.inl (some (.int (mkB l n (τ.2 37) (τ.2 48) p))), mS b τ') := by
  obtain ⟨τ', k, e⟩ := c_R_markBy d b (wR (wF τ 0 0) 49 (τ.2 48)) (l := l) (m := m) (n := n) ((e_T1 τ).law rl) ((e_T1 τ).cn C) K p hp
  obtain ⟨hm, h8, hn, h6⟩ := C
  refine ⟨τ', (e_T1 τ).tr (k.up (by decide) (by decide)), k.1 0 (by decide), (vR rfl).trans ((B_R_mark_0 _ _ _ _).trans ?_)⟩
  simp (disch := omega) only [m_pF, obs, kC1_v, kC0_v, iP_ok (d + 3) hn (show n ≤ 8 by omega) hp, i10, eq_self, if_true, not_false_eq_true, c_R_take (d + 3), wF_2, e]
  rfl
theorem mkB_c {l : List Nat} {n : Nat} {dk dk' v : Nat → Int32} {p : Nat} (h : dk p = dk' p) : mkB l n dk v p = mkB l n dk' v p := by unfold mkB; rw [h]
theorem P_mark {S : pS} {L : xA} {s τ : rT} {m n q : Nat} {l : List Nat} (I : Iv S L s τ m n q l) (hd : RD s τ) (p : Int32) : Pr m_L_mark m_R_mark [.int p] S := by
  have I' := I; obtain ⟨D, A, hx, hr, ho, ⟨C, Cr, ⟨q1, q2, q3⟩, hy, hdy, hdk, xl, rl, hb1, hb2⟩, ⟨⟨tk, k1, k2, k3⟩, tb, tf, tr⟩, ⟨e48, hsc⟩, rc⟩ := I'; have C' := C; have Cr' := Cr; obtain ⟨hm, h8, hn, h6⟩ := C'; obtain ⟨hm', -, hn', -⟩ := Cr'
  have hL := (cR (d := 199) (M := m_L_mark) (as := [.ref 0, .int p, .ref 58]) (s := S)).trans (B_L_mark_0 _ _ _ _ _)
  by_cases h0_ : 0 ≤ p ∧ p < Int32.ofNat n
  · obtain ⟨p, lp, rfl⟩ := ii_ex (by omega) h0_.1 h0_.2
    have ev : mkB l n (s.2 12) (s.2 0) p = mkB l n (τ.2 37) (τ.2 48) p := by rw [mkB_c (hdk p lp).1, e48]
    exact P_q I hd hL (Y_mark 193 D C xl hsc.1 p lp) (fun b => by rw [ev]; exact R_mark 194 b τ Cr rl (by rw [← e48]; exact hsc.1) p lp)
  · have ya : ∀ d, vcall (d + 4) m_Y_mark [.ref 0, .int p] (xS S L s) = xE0 S L s := fun d => by
      refine (vY D rfl).trans ((B_Y_mark_0 _ _ _ _).trans ?_)
      rw [nP_no (d + 1) D (by rw [hn]; exact h0_)]
      rfl
    have ra : ∀ d b, vcall (d + 3) m_R_mark [.ref 30, .int p] (mS b τ) = some (.inl (some (.int 0)), mS b (rN τ 1 0)) := fun d b => by
      refine (vR rfl).trans ((B_R_mark_0 _ _ _ _).trans ?_)
      simp only [m_pF, obs, iP_no d hn' (show n ≤ 8 by omega) h0_ (show (1 : Int32) ≠ 0 by decide), kC1_v, i10, eq_self, if_true, if_false, not_true_eq_false, not_false_eq_true]
    exact P_e (k := 1) I hd hL (fun _ _ => rfl) (by decide) (ya 195) (ra 197)
def riseV (fs v : Nat → Int32) (p : Nat) : Int32 := if v (8 + p) = -1 then -1 else if 1 < fs p - v (20 + p) + 1 then fs p - v (20 + p) + 1 else 1
theorem Y_rising (d : Nat) {b : pS} {L : xA} {s : rT} {m n : Nat} (D : Dj L) (C : Cn s m n) (p : Nat) (hp : p < n) : vcall (d + 6) m_Y_rising [.ref 0, .int (Int32.ofNat p)] (xS b L s) = some (.inl (some (.int (riseV (s.2 13) (s.2 0) p))), xS b L s) := by
  obtain ⟨hm, h8, hn, h6⟩ := C
  refine (vY D rfl).trans ((B_Y_rising_0 _ _ _ _).trans ?_)
  simp (disch := omega) only [x0_gF D, sn_gF (SN_p D), sn_gI (SN_p D), xu_gF D, xu_gI D, xk_gF D, xk_gI D, x1_gF D, pl_ix, ii_m1, ii_s1, obs, wF_1, wF_2, wA_1, wA_2, wR_1, wR_2, Nat.reduceEqDiff, Nat.reduceAdd, Nat.reduceMul, if_true, if_false, ite_true, ite_false, ii_la, ii_al, ii_lm, ii_ml, ii_add, ii_mul, ii_1, ii_le, ii_lt, ii_c1, ii_c2, ii_c3, ii_c4, ii_c5, ii_n1, ii_nn, kC0_v, kC1_v, kC2_v, kC3_v, kC0_x, kC1_x, kC2_x, not_true_eq_false, not_false_eq_true, ne_eq, nP_ok (d + 3) D hn (show n ≤ 8 by omega) hp, c_S_sits (d + 4) (SN_p D)]
  unfold riseV
  by_cases h : s.2 0 (8 + p) = -1
  · simp only [h, if_true, not_true_eq_false, if_false]
  · simp only [h, if_false, i10, eq_self, if_true, not_false_eq_true]
theorem R_rising (d : Nat) (b : pS) (τ : rT) {m n : Nat} (C : rCn τ m n) (p : Nat) (hp : p < n) : vcall (d + 6) m_R_rising [.ref 30, .int (Int32.ofNat p)] (mS b τ) = some (.inl (some (.int (riseV (τ.2 38) (τ.2 48) p))), mS b (wF τ 0 0)) := by
  obtain ⟨hm, h8, hn, h6⟩ := C
  refine (vR rfl).trans ((B_R_rising_0 _ _ _ _).trans ?_)
  simp (disch := omega) only [m_gF, m_gI, m_pI, m_gIl, m_pIl, ii_m1, ii_s1, m_pF, obs, wF_1, wF_2, wA_1, wA_2, wR_1, wR_2, Nat.reduceEqDiff, Nat.reduceAdd, Nat.reduceMul, if_true, if_false, ite_true, ite_false, ii_la, ii_al, ii_lm, ii_ml, ii_add, ii_mul, ii_1, ii_le, ii_lt, ii_c1, ii_c2, ii_c3, ii_c4, ii_c5, ii_n1, ii_nn, kC0_v, kC1_v, kC2_v, kC3_v, kC0_x, kC1_x, kC2_x, not_true_eq_false, not_false_eq_true, ne_eq, iP_ok (d + 3) hn (show n ≤ 8 by omega) hp, i10, eq_self]
  unfold riseV
  by_cases h : τ.2 48 (8 + p) = -1
  · simp only [h, if_true, not_true_eq_false, if_false]
  · simp only [h, if_false, if_true, not_false_eq_true]
    by_cases h1 : 1 < τ.2 38 p - τ.2 48 (20 + p) + 1
    · rw [if_pos h1, if_pos (Int32.le_of_lt h1)]
    · rw [if_neg h1]
      by_cases h2 : 1 ≤ τ.2 38 p - τ.2 48 (20 + p) + 1
      · rw [if_pos h2, Int32.le_antisymm (Int32.not_lt.mp h1) h2]
      · rw [if_neg h2]
theorem P_rising {S : pS} {L : xA} {s τ : rT} {m n q : Nat} {l : List Nat} (I : Iv S L s τ m n q l) (hd : RD s τ) (p : Int32) : Pr m_L_rising m_R_rising [.int p] S := by
  have I' := I; obtain ⟨D, A, hx, hr, ho, ⟨C, Cr, ⟨q1, q2, q3⟩, hy, hdy, hdk, xl, rl, hb1, hb2⟩, ⟨⟨tk, k1, k2, k3⟩, tb, tf, tr⟩, ⟨e48, hsc⟩, rc⟩ := I'; have C' := C; have Cr' := Cr; obtain ⟨hm, h8, hn, h6⟩ := C'; obtain ⟨hm', -, hn', -⟩ := Cr'
  have hL := (cR (d := 199) (M := m_L_rising) (as := [.ref 0, .int p, .ref 58]) (s := S)).trans (B_L_rising_0 _ _ _ _ _)
  by_cases h0_ : 0 ≤ p ∧ p < Int32.ofNat n
  · obtain ⟨p, lp, rfl⟩ := ii_ex (by omega) h0_.1 h0_.2
    have ev : riseV (s.2 13) (s.2 0) p = riseV (τ.2 38) (τ.2 48) p := by obtain ⟨-, k, -, -, d2, d3⟩ := hdk p lp; unfold riseV; rw [d2, d3, e48]
    exact P_q I hd hL ⟨s, Kf.rf _ _ s, Y_rising 193 D C p lp⟩ (fun b => ⟨wF τ 0 0, e_T0 τ, rfl, by rw [ev]; exact R_rising 194 b τ Cr p lp⟩)
  · have ya : ∀ d, vcall (d + 4) m_Y_rising [.ref 0, .int p] (xS S L s) = xE0 S L s := fun d => by
      refine (vY D rfl).trans ((B_Y_rising_0 _ _ _ _).trans ?_)
      rw [nP_no (d + 1) D (by rw [hn]; exact h0_)]
      rfl
    have ra : ∀ d b, vcall (d + 3) m_R_rising [.ref 30, .int p] (mS b τ) = some (.inl (some (.int 0)), mS b (rN τ 1 0)) := fun d b => by
      refine (vR rfl).trans ((B_R_rising_0 _ _ _ _).trans ?_)
      simp only [m_pF, obs, iP_no d hn' (show n ≤ 8 by omega) h0_ (show (1 : Int32) ≠ 0 by decide), kC1_v, i10, eq_self, if_true, if_false, not_true_eq_false, not_false_eq_true]
    exact P_e (k := 1) I hd hL (fun _ _ => rfl) (by decide) (ya 195) (ra 197)
