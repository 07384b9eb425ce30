/-! THE REFERENCE: what it reads off a scene -/
theorem c_R_fine (d : Nat) (b : pS) (τ : rT) : vcall (d + 1) m_R_fine [.ref 30] (mS b τ) = some (.inl (some (.int (if τ.1 5 = -1 then 1 else 0))), mS b τ) := by
  refine (vR rfl).trans ((B_R_fine_0 _ _ _).trans ?_)
  simp only [m_gF, obs]
  split <;> simp_all
theorem c_R_wrong (d : Nat) (b : pS) (τ : rT) (k p : Int32) : vcall (d + 1) m_R_wrong [.ref 30, .int k, .int p] (mS b τ) = some (.inl none, mS b (if τ.1 5 = -1 then wF (wF τ 5 p) 6 k else τ)) := by
  refine (vR rfl).trans ((B_R_wrong_0 _ _ _ _ _).trans ?_)
  simp only [m_gF, obs, m_pF]
  split <;> rfl
theorem c_R_thrown (d : Nat) (b : pS) (τ : rT) : vcall (d + 1) m_R_thrown [.ref 30] (mS b τ) = some (.inl (some (.int (τ.1 0))), mS b τ) := by
  refine (vR rfl).trans ((B_R_thrown_0 _ _ _).trans ?_)
  simp only [m_gF, obs]
theorem c_R_within (d : Nat) (s : pS) (v lo hi : Int32) : call (d + 1) m_R_within [.int v, .int lo, .int hi] s = some (.inl (some (.int (if lo ≤ v ∧ v ≤ hi then 1 else 0))), s) := by
  refine cR.trans ((B_R_within_0 _ _ _ _ _).trans ?_)
  by_cases h1 : v < lo
  · have : ¬ lo ≤ v := Int32.not_le.mpr h1
    simp [h1, this]
  · have h2 : lo ≤ v := Int32.not_lt.mp h1
    by_cases h3 : hi < v
    · have : ¬ v ≤ hi := Int32.not_le.mpr h3
      simp [h1, h3, this]
    · have : v ≤ hi := Int32.not_lt.mp h3
      simp [h1, h3, h2, this]
/-- may: the first refusal of a call is told and counted -/
def rMay (τ : rT) (g : Prop) [Decidable g] (code : Int32) (kind : Nat) : rT := if g then τ else wA (wF τ 0 code) 31 kind (τ.2 31 kind + 1)
theorem c_R_may (d : Nat) (b : pS) (τ : rT) (g : Prop) [Decidable g] (code : Int32) (kind : Nat) (hk : kind < 2) (h0 : τ.1 0 = 0) (hc : code ≠ 0) : vcall (d + 1) m_R_may [.ref 30, .int (if g then 1 else 0), .int code, .int (Int32.ofNat kind)] (mS b τ) = some (.inl (some (.int (if g then 1 else 0))), mS b (rMay τ g code kind)) := by
  refine (vR rfl).trans ((B_R_may_0 _ _ _ _ _ _).trans ?_)
  by_cases hg : g
  · simp only [hg, if_true, rMay, m_gF, obs, h0]
    rfl
  · simp (disch := omega) only [m_gF, m_gI, m_pI, m_gIl, m_pIl, ii_m1, ii_s1, m_pF, obs, wF_1, wF_2, wA_1, wA_2, wR_1, wR_2, Nat.reduceEqDiff, Nat.reduceAdd, Nat.reduceMul, if_true, if_false, ite_true, ite_false, ii_la, ii_al, ii_lm, ii_ml, ii_add, ii_mul, ii_1, ii_le, ii_lt, ii_c1, ii_c2, ii_c3, ii_c4, ii_c5, ii_n1, ii_nn, kC0_v, kC1_v, kC2_v, kC3_v, kC0_x, kC1_x, kC2_x, not_true_eq_false, not_false_eq_true, ne_eq, hg, rMay, h0, hc]
theorem c_R_sitsAll (d : Nat) (b : pS) (τ : rT) (n : Nat) (hn : τ.1 23 = Int32.ofNat n) (h6 : n ≤ 6) : vcall (d + 1) m_R_sitsAll [.ref 30] (mS b τ) = some (.inl (some (.int (sSits n (τ.2 49)))), mS b τ) := by
  refine (vR rfl).trans ((B_R_sitsAll_0 _ _ _).trans ?_)
  refine (fo_loop (F := fun k a => den d m_R_sitsAll 4 [.ref 30, .int a, .int (Int32.ofNat k)] [] (mS b τ)) (f := fun p a => if τ.2 49 (8 + p) = -1 then a else a ||| (1 <<< (Int32.ofNat p &&& 31))) n (fun k a hk => ?_) 0).trans ?_
  · rw [B_R_sitsAll_4]
    simp (disch := omega) only [m_gF, m_gI, m_pI, m_gIl, m_pIl, ii_m1, ii_s1, m_pF, obs, wF_1, wF_2, wA_1, wA_2, wR_1, wR_2, Nat.reduceEqDiff, Nat.reduceAdd, Nat.reduceMul, if_true, if_false, ite_true, ite_false, ii_la, ii_al, ii_lm, ii_ml, ii_add, ii_mul, ii_1, ii_le, ii_lt, ii_c1, ii_c2, ii_c3, ii_c4, ii_c5, ii_n1, ii_nn, kC0_v, kC1_v, kC2_v, kC3_v, kC0_x, kC1_x, kC2_x, not_true_eq_false, not_false_eq_true, ne_eq, hn]
    rw [if_neg (by omega)]
    split <;> simp_all
  · rw [B_R_sitsAll_4]
    simp (disch := omega) only [m_gF, m_gI, m_pI, m_gIl, m_pIl, ii_m1, ii_s1, m_pF, obs, wF_1, wF_2, wA_1, wA_2, wR_1, wR_2, Nat.reduceEqDiff, Nat.reduceAdd, Nat.reduceMul, if_true, if_false, ite_true, ite_false, ii_la, ii_al, ii_lm, ii_ml, ii_add, ii_mul, ii_1, ii_le, ii_lt, ii_c1, ii_c2, ii_c3, ii_c4, ii_c5, ii_n1, ii_nn, kC0_v, kC1_v, kC2_v, kC3_v, kC0_x, kC1_x, kC2_x, not_true_eq_false, not_false_eq_true, ne_eq, hn]
    rw [if_pos (by omega)]; rfl
theorem c_R_ones (d : Nat) (s : pS) (x : Int32) : call (d + 1) m_R_ones [.int x] s = some (.inl (some (.int (onesI x))), s) := by
  refine cR.trans ((B_R_ones_0 _ _ _).trans ?_)
  refine (fo_loop (F := fun k a => den d m_R_ones 4 [.int x, .int a, .int (Int32.ofNat k)] [] s) (f := fun k a => a + ((x >>> (Int32.ofNat k &&& 31)) &&& 1)) 8 (fun k a hk => ?_) 0).trans ?_
  · rw [B_R_ones_4]
    simp (disch := omega) only [m_gF, m_gI, m_pI, m_gIl, m_pIl, ii_m1, ii_s1, m_pF, obs, wF_1, wF_2, wA_1, wA_2, wR_1, wR_2, Nat.reduceEqDiff, Nat.reduceAdd, Nat.reduceMul, if_true, if_false, ite_true, ite_false, ii_la, ii_al, ii_lm, ii_ml, ii_add, ii_mul, ii_1, ii_le, ii_lt, ii_c1, ii_c2, ii_c3, ii_c4, ii_c5, ii_n1, ii_nn, kC0_v, kC1_v, kC2_v, kC3_v, kC0_x, kC1_x, kC2_x, not_true_eq_false, not_false_eq_true, ne_eq]
    rw [if_neg (by omega)]
  · rw [B_R_ones_4]
    rfl
theorem c_R_onSeat (d : Nat) (b : pS) (τ : rT) (n : Nat) (hn : τ.1 23 = Int32.ofNat n) (h6 : n ≤ 6) (t : Int32) : vcall (d + 1) m_R_onSeat [.ref 30, .int t] (mS b τ) = some (.inl (some (.int (sOn n (τ.2 49) t))), mS b τ) := by
  refine (vR rfl).trans ((B_R_onSeat_0 _ _ _ _).trans ?_)
  refine fs_loop (F := fun k => den d m_R_onSeat 2 [.ref 30, .int t, .int (Int32.ofNat k)] [] (mS b τ)) (R := fun x => some (.inl (some (.int x)), mS b τ)) n (fun k hk => ?_) ?_
  · rw [B_R_onSeat_2]
    simp (disch := omega) only [m_gF, m_gI, m_pI, m_gIl, m_pIl, ii_m1, ii_s1, m_pF, obs, wF_1, wF_2, wA_1, wA_2, wR_1, wR_2, Nat.reduceEqDiff, Nat.reduceAdd, Nat.reduceMul, if_true, if_false, ite_true, ite_false, ii_la, ii_al, ii_lm, ii_ml, ii_add, ii_mul, ii_1, ii_le, ii_lt, ii_c1, ii_c2, ii_c3, ii_c4, ii_c5, ii_n1, ii_nn, kC0_v, kC1_v, kC2_v, kC3_v, kC0_x, kC1_x, kC2_x, not_true_eq_false, not_false_eq_true, ne_eq, hn]
    rw [if_neg (by omega)]
    by_cases h : τ.2 49 (8 + k) = t <;> simp [h]
  · rw [B_R_onSeat_2]
    simp (disch := omega) only [m_gF, m_gI, m_pI, m_gIl, m_pIl, ii_m1, ii_s1, m_pF, obs, wF_1, wF_2, wA_1, wA_2, wR_1, wR_2, Nat.reduceEqDiff, Nat.reduceAdd, Nat.reduceMul, if_true, if_false, ite_true, ite_false, ii_la, ii_al, ii_lm, ii_ml, ii_add, ii_mul, ii_1, ii_le, ii_lt, ii_c1, ii_c2, ii_c3, ii_c4, ii_c5, ii_n1, ii_nn, kC0_v, kC1_v, kC2_v, kC3_v, kC0_x, kC1_x, kC2_x, not_true_eq_false, not_false_eq_true, ne_eq, hn]
    rw [if_pos (by omega)]
theorem c_R_allOn (d : Nat) (b : pS) (τ : rT) (n : Nat) (hn : τ.1 23 = Int32.ofNat n) (h6 : n ≤ 6) (t : Nat) (ht : t < 8) : vcall (d + 1) m_R_allOn [.ref 30, .int (Int32.ofNat t)] (mS b τ) = some (.inl (some (.int (sAll n (τ.2 49) t))), mS b τ) := by
  refine (vR rfl).trans ((B_R_allOn_0 _ _ _ _).trans ?_)
  refine (fo_loop (F := fun k a => den d m_R_allOn 4 [.ref 30, .int (Int32.ofNat t), .int a, .int (Int32.ofNat k)] [] (mS b τ)) (f := fun p a => a + τ.2 49 (26 + 6 * t + p)) n (fun k a hk => ?_) 0).trans ?_
  · rw [B_R_allOn_4]
    simp (disch := omega) only [m_gF, m_gI, m_pI, m_gIl, m_pIl, ii_m1, ii_s1, m_pF, obs, wF_1, wF_2, wA_1, wA_2, wR_1, wR_2, Nat.reduceEqDiff, Nat.reduceAdd, Nat.reduceMul, if_true, if_false, ite_true, ite_false, ii_la, ii_al, ii_lm, ii_ml, ii_add, ii_mul, ii_1, ii_le, ii_lt, ii_c1, ii_c2, ii_c3, ii_c4, ii_c5, ii_n1, ii_nn, kC0_v, kC1_v, kC2_v, kC3_v, kC0_x, kC1_x, kC2_x, not_true_eq_false, not_false_eq_true, ne_eq, hn]
    rw [if_neg (by omega)]
  · rw [B_R_allOn_4]
    simp (disch := omega) only [m_gF, m_gI, m_pI, m_gIl, m_pIl, ii_m1, ii_s1, m_pF, obs, wF_1, wF_2, wA_1, wA_2, wR_1, wR_2, Nat.reduceEqDiff, Nat.reduceAdd, Nat.reduceMul, if_true, if_false, ite_true, ite_false, ii_la, ii_al, ii_lm, ii_ml, ii_add, ii_mul, ii_1, ii_le, ii_lt, ii_c1, ii_c2, ii_c3, ii_c4, ii_c5, ii_n1, ii_nn, kC0_v, kC1_v, kC2_v, kC3_v, kC0_x, kC1_x, kC2_x, not_true_eq_false, not_false_eq_true, ne_eq, hn]
    rw [if_pos (by omega)]; rfl
theorem c_R_allOnPlate (d : Nat) (b : pS) (τ : rT) (m n : Nat) (hm : τ.1 22 = Int32.ofNat m) (h8 : m ≤ 8) (hn : τ.1 23 = Int32.ofNat n) (h6 : n ≤ 6) : vcall (d + 2) m_R_allOnPlate [.ref 30] (mS b τ) = some (.inl (some (.int (sPlate m n (τ.2 49)))), mS b τ) := by
  refine (vR rfl).trans ((B_R_allOnPlate_0 _ _ _).trans ?_)
  refine (fo_loop (F := fun k a => den (d + 1) m_R_allOnPlate 4 [.ref 30, .int a, .int (Int32.ofNat k)] [] (mS b τ)) (f := fun t a => a + sAll n (τ.2 49) t) m (fun k a hk => ?_) 0).trans ?_
  · rw [B_R_allOnPlate_4]
    simp (disch := omega) only [m_gF, m_gI, m_pI, m_gIl, m_pIl, ii_m1, ii_s1, m_pF, obs, wF_1, wF_2, wA_1, wA_2, wR_1, wR_2, Nat.reduceEqDiff, Nat.reduceAdd, Nat.reduceMul, if_true, if_false, ite_true, ite_false, ii_la, ii_al, ii_lm, ii_ml, ii_add, ii_mul, ii_1, ii_le, ii_lt, ii_c1, ii_c2, ii_c3, ii_c4, ii_c5, ii_n1, ii_nn, kC0_v, kC1_v, kC2_v, kC3_v, kC0_x, kC1_x, kC2_x, not_true_eq_false, not_false_eq_true, ne_eq, hm]
    rw [if_neg (by omega), c_R_allOn d b τ n hn h6 k (by omega)]
    rfl
  · rw [B_R_allOnPlate_4]
    simp (disch := omega) only [m_gF, m_gI, m_pI, m_gIl, m_pIl, ii_m1, ii_s1, m_pF, obs, wF_1, wF_2, wA_1, wA_2, wR_1, wR_2, Nat.reduceEqDiff, Nat.reduceAdd, Nat.reduceMul, if_true, if_false, ite_true, ite_false, ii_la, ii_al, ii_lm, ii_ml, ii_add, ii_mul, ii_1, ii_le, ii_lt, ii_c1, ii_c2, ii_c3, ii_c4, ii_c5, ii_n1, ii_nn, kC0_v, kC1_v, kC2_v, kC3_v, kC0_x, kC1_x, kC2_x, not_true_eq_false, not_false_eq_true, ne_eq, hm]
    rw [if_pos (by omega)]; rfl
theorem c_R_seenOn (d : Nat) (b : pS) (τ : rT) (n : Nat) (hn : τ.1 23 = Int32.ofNat n) (h6 : n ≤ 6) (t : Nat) (ht : t < 8) : vcall (d + 2) m_R_seenOn [.ref 30, .int (Int32.ofNat t)] (mS b τ) = some (.inl (some (.int (sSeen n (τ.2 49) t))), mS b τ) := by
  refine (vR rfl).trans ((B_R_seenOn_0 _ _ _ _).trans ?_)
  refine fs_loop (F := fun k => den (d + 1) m_R_seenOn 2 [.ref 30, .int (Int32.ofNat t), .int (Int32.ofNat k)] [] (mS b τ)) (R := fun x => some (.inl (some (.int x)), mS b τ)) n (fun k hk => ?_) ?_
  · rw [B_R_seenOn_2]
    simp (disch := omega) only [m_gF, m_gI, m_pI, m_gIl, m_pIl, ii_m1, ii_s1, m_pF, obs, wF_1, wF_2, wA_1, wA_2, wR_1, wR_2, Nat.reduceEqDiff, Nat.reduceAdd, Nat.reduceMul, if_true, if_false, ite_true, ite_false, ii_la, ii_al, ii_lm, ii_ml, ii_add, ii_mul, ii_1, ii_le, ii_lt, ii_c1, ii_c2, ii_c3, ii_c4, ii_c5, ii_n1, ii_nn, kC0_v, kC1_v, kC2_v, kC3_v, kC0_x, kC1_x, kC2_x, not_true_eq_false, not_false_eq_true, ne_eq, hn]
    rw [if_neg (by omega), c_R_allOn d b τ n hn h6 t ht]
    simp only [kC1_v]
    by_cases h : 2 * τ.2 49 (26 + 6 * t + k) ≤ sAll n (τ.2 49) t
    · have : ¬ sAll n (τ.2 49) t < 2 * τ.2 49 (26 + 6 * t + k) := Int32.not_lt.mpr h
      simp [h, this]
    · have h1 : sAll n (τ.2 49) t < 2 * τ.2 49 (26 + 6 * t + k) := Int32.not_le.mp h
      simp [h, h1]
  · rw [B_R_seenOn_2]
    simp (disch := omega) only [m_gF, m_gI, m_pI, m_gIl, m_pIl, ii_m1, ii_s1, m_pF, obs, wF_1, wF_2, wA_1, wA_2, wR_1, wR_2, Nat.reduceEqDiff, Nat.reduceAdd, Nat.reduceMul, if_true, if_false, ite_true, ite_false, ii_la, ii_al, ii_lm, ii_ml, ii_add, ii_mul, ii_1, ii_le, ii_lt, ii_c1, ii_c2, ii_c3, ii_c4, ii_c5, ii_n1, ii_nn, kC0_v, kC1_v, kC2_v, kC3_v, kC0_x, kC1_x, kC2_x, not_true_eq_false, not_false_eq_true, ne_eq, hn]
    rw [if_pos (by omega)]
theorem c_R_unseen (d : Nat) (b : pS) (τ : rT) (m n : Nat) (hm : τ.1 22 = Int32.ofNat m) (h8 : m ≤ 8) (hn : τ.1 23 = Int32.ofNat n) (h6 : n ≤ 6) : vcall (d + 3) m_R_unseen [.ref 30] (mS b τ) = some (.inl (some (.int (sUnseen m n (τ.2 49)))), mS b τ) := by
  refine (vR rfl).trans ((B_R_unseen_0 _ _ _).trans ?_)
  simp (disch := omega) only [m_gF, m_gI, m_pI, m_gIl, m_pIl, ii_m1, ii_s1, m_pF, obs, wF_1, wF_2, wA_1, wA_2, wR_1, wR_2, Nat.reduceEqDiff, Nat.reduceAdd, Nat.reduceMul, if_true, if_false, ite_true, ite_false, ii_la, ii_al, ii_lm, ii_ml, ii_add, ii_mul, ii_1, ii_le, ii_lt, ii_c1, ii_c2, ii_c3, ii_c4, ii_c5, ii_n1, ii_nn, kC0_v, kC1_v, kC2_v, kC3_v, kC0_x, kC1_x, kC2_x, not_true_eq_false, not_false_eq_true, ne_eq, hn]
  refine (fo_loop (F := fun k a => den (d + 2) m_R_unseen 11 [.ref 30, .int a, .int (Int32.ofNat k)] [] (mS b τ)) (f := fun t a => if sSeen n (τ.2 49) t = -1 then a else a &&& ((1 <<< (sSeen n (τ.2 49) t &&& 31)) ^^^ (-1))) m (fun k a hk => ?_) _).trans ?_
  · rw [B_R_unseen_11]
    simp (disch := omega) only [m_gF, m_gI, m_pI, m_gIl, m_pIl, ii_m1, ii_s1, m_pF, obs, wF_1, wF_2, wA_1, wA_2, wR_1, wR_2, Nat.reduceEqDiff, Nat.reduceAdd, Nat.reduceMul, if_true, if_false, ite_true, ite_false, ii_la, ii_al, ii_lm, ii_ml, ii_add, ii_mul, ii_1, ii_le, ii_lt, ii_c1, ii_c2, ii_c3, ii_c4, ii_c5, ii_n1, ii_nn, kC0_v, kC1_v, kC2_v, kC3_v, kC0_x, kC1_x, kC2_x, not_true_eq_false, not_false_eq_true, ne_eq, hm]
    have e := c_R_seenOn d b τ n hn h6 k (by omega)
    rw [if_neg (by omega)]
    simp only [kC1_v, e]
    split <;> rfl
  · rw [B_R_unseen_11]
    simp (disch := omega) only [m_gF, m_gI, m_pI, m_gIl, m_pIl, ii_m1, ii_s1, m_pF, obs, wF_1, wF_2, wA_1, wA_2, wR_1, wR_2, Nat.reduceEqDiff, Nat.reduceAdd, Nat.reduceMul, if_true, if_false, ite_true, ite_false, ii_la, ii_al, ii_lm, ii_ml, ii_add, ii_mul, ii_1, ii_le, ii_lt, ii_c1, ii_c2, ii_c3, ii_c4, ii_c5, ii_n1, ii_nn, kC0_v, kC1_v, kC2_v, kC3_v, kC0_x, kC1_x, kC2_x, not_true_eq_false, not_false_eq_true, ne_eq, hm]
    rw [if_pos (by omega)]; rfl
theorem c_R_copies (d : Nat) (b : pS) (τ : rT) (a c n : Nat) (ha : 31 ≤ a) (ha2 : a < 58) (hc : 31 ≤ c) (hc2 : c < 58) (hna : n ≤ rLen a) (hnc : n ≤ rLen c) (hl : n < 2147483648) (hla : rLen a < 2147483648) (hlc : rLen c < 2147483648) : vcall (d + 1) m_R_copies [.ref 30, .ref a, .ref c, .int (Int32.ofNat n)] (mS b τ) = some (.inl none, mS b (wR τ c (fun i => if i < n then τ.2 a i else τ.2 c i))) := by
  refine (vR rfl).trans ((B_R_copies_0 _ _ _ _ _ _).trans ?_)
  have e0 : mS b τ = mS b (wR τ c (fun i => if i < 0 then τ.2 a i else τ.2 c i)) := mS_eq (fun _ _ => rfl) (fun e _ _ i _ => by
    show τ.2 e i = (if e = c then _ else τ.2 e) i
    by_cases h : e = c
    · subst h; simp
    · simp [h])
  rw [e0]
  refine (fo_loop (F := fun k _ => den d m_R_copies 3 [.ref 30, .ref a, .ref c, .int (Int32.ofNat n), .int (Int32.ofNat k)] [] (mS b (wR τ c (fun i => if i < k then τ.2 a i else τ.2 c i)))) (f := fun _ (_ : Unit) => ()) n (fun k _ hk => ?_) ()).trans ?_
  · rw [B_R_copies_3]
    simp (disch := omega) only [ii_le]
    rw [if_neg (by omega), m_gI0 ha ha2 rfl hla k (by omega)]
    simp only [obs]
    rw [m_pI0 hc hc2 rfl hlc k _ (by omega), ii_1]
    simp only [obs]
    congr 2
    unfold wA wR
    refine congrArg (fun z => (τ.1, z)) (funext fun e => ?_)
    dsimp only
    by_cases he : e = c
    · subst he
      simp only [if_true]
      funext i
      unfold upd
      by_cases hi : i = k
      · subst hi
        simp only [if_true, show i < i + 1 from Nat.lt_succ_self i]
        by_cases h2 : a = e
        · subst h2; simp
        · simp [h2]
      · have : (i < k + 1) = (i < k) := by apply propext; omega
        simp [hi, this]
    · simp [he]
  · rw [B_R_copies_3]
    simp (disch := omega) only [ii_le]
    rw [if_pos (Nat.le_refl n)]
theorem c_R_take (d : Nat) (b : pS) (τ : rT) : vcall (d + 2) m_R_take [.ref 30] (mS b τ) = some (.inl none, mS b (wR τ 49 (τ.2 48))) := by
  refine (vR rfl).trans ((B_R_take_0 _ _ _).trans ?_)
  simp only [m_gF, obs]
  rw [show (76 : Int32) = Int32.ofNat 76 from rfl, c_R_copies d b τ 48 49 76 (by decide) (by decide) (by decide) (by decide) (by decide) (by decide) (by decide) (by decide) (by decide), kC0_v]
  congr 2
  refine mS_eq (fun _ _ => rfl) (fun a h1 h2 i hi => ?_)
  unfold wR
  dsimp only
  by_cases h : a = 49
  · subst h
    have : i < 76 := hi
    simp [this]
  · simp [h]
