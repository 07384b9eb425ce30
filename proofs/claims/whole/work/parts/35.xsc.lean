/-! THE PROGRAM: what it reads off a scene -/
theorem pl_ix (t p : Nat) : 26 + (t * 6 + p) = 26 + 6 * t + p := by omega
def Cn (s : rT) (m n : Nat) : Prop := s.1 44 = Int32.ofNat m ∧ m ≤ 8 ∧ s.1 45 = Int32.ofNat n ∧ n ≤ 6
theorem c_S_sits (d : Nat) {b : pS} {L : xA} {s : rT} {a z : Nat} (H : SN L a z) (p : Nat) (hp : p < 6) : vcall (d + 1) m_Sc_sits [.ref a, .int (Int32.ofNat p)] (xS b L s) = some (.inl (some (.int (if s.2 z (8 + p) = -1 then 0 else 1))), xS b L s) := by
  refine (vS H rfl).trans ((B_Sc_sits_0 _ _ _ _).trans ?_)
  simp (disch := omega) only [sn_gF H, sn_gI H, sn_pI H, sn_pF H, xu_gF H.1, xu_gI H.1, pl_ix, ii_m1, ii_s1, obs, wF_1, wF_2, wA_1, wA_2, wR_1, wR_2, Nat.reduceEqDiff, Nat.reduceAdd, Nat.reduceMul, if_true, if_false, ite_true, ite_false, ii_la, ii_al, ii_lm, ii_ml, ii_add, ii_mul, ii_1, ii_le, ii_lt, ii_c1, ii_c2, ii_c3, ii_c4, ii_c5, ii_n1, ii_nn, kC0_v, kC1_v, kC2_v, kC3_v, kC0_x, kC1_x, kC2_x, not_true_eq_false, not_false_eq_true, ne_eq]
  split <;> rfl
theorem c_S_whoSits (d : Nat) {b : pS} {L : xA} {s : rT} {a z m n : Nat} (H : SN L a z) (C : Cn s m n) : vcall (d + 2) m_Sc_whoSits [.ref a] (xS b L s) = some (.inl (some (.int (sSits n (s.2 z)))), xS b L s) := by
  obtain ⟨hm, h8, hn, h6⟩ := C
  refine (vS H rfl).trans ((B_Sc_whoSits_0 _ _ _).trans ?_)
  refine (fo_loop (F := fun k c => den (d + 1) m_Sc_whoSits 4 [.ref a, .int c, .int (Int32.ofNat k)] [] (xS b L s)) (f := fun p c => if s.2 z (8 + p) = -1 then c else c ||| (1 <<< (Int32.ofNat p &&& 31))) n (fun k c hk => ?_) 0).trans ?_
  · rw [B_Sc_whoSits_4]
    simp (disch := omega) only [sn_gF H, sn_gI H, sn_pI H, sn_pF H, xu_gF H.1, xu_gI H.1, pl_ix, ii_m1, ii_s1, obs, wF_1, wF_2, wA_1, wA_2, wR_1, wR_2, Nat.reduceEqDiff, Nat.reduceAdd, Nat.reduceMul, if_true, if_false, ite_true, ite_false, ii_la, ii_al, ii_lm, ii_ml, ii_add, ii_mul, ii_1, ii_le, ii_lt, ii_c1, ii_c2, ii_c3, ii_c4, ii_c5, ii_n1, ii_nn, kC0_v, kC1_v, kC2_v, kC3_v, kC0_x, kC1_x, kC2_x, not_true_eq_false, not_false_eq_true, ne_eq, hn, c_S_sits d H]
    rw [if_neg (by omega)]
    by_cases h : s.2 z (8 + k) = -1 <;> simp [h]
  · rw [B_Sc_whoSits_4]
    simp (disch := omega) only [sn_gF H, sn_gI H, sn_pI H, sn_pF H, xu_gF H.1, xu_gI H.1, pl_ix, ii_m1, ii_s1, obs, wF_1, wF_2, wA_1, wA_2, wR_1, wR_2, Nat.reduceEqDiff, Nat.reduceAdd, Nat.reduceMul, if_true, if_false, ite_true, ite_false, ii_la, ii_al, ii_lm, ii_ml, ii_add, ii_mul, ii_1, ii_le, ii_lt, ii_c1, ii_c2, ii_c3, ii_c4, ii_c5, ii_n1, ii_nn, kC0_v, kC1_v, kC2_v, kC3_v, kC0_x, kC1_x, kC2_x, not_true_eq_false, not_false_eq_true, ne_eq, hn]
    rw [if_pos (by omega)]; rfl
theorem c_S_whoIsOn (d : Nat) {b : pS} {L : xA} {s : rT} {a z m n : Nat} (H : SN L a z) (C : Cn s m n) (t : Int32) : vcall (d + 1) m_Sc_whoIsOn [.ref a, .int t] (xS b L s) = some (.inl (some (.int (sOn n (s.2 z) t))), xS b L s) := by
  obtain ⟨hm, h8, hn, h6⟩ := C
  refine (vS H rfl).trans ((B_Sc_whoIsOn_0 _ _ _ _).trans ?_)
  refine fs_loop (F := fun k => den d m_Sc_whoIsOn 2 [.ref a, .int t, .int (Int32.ofNat k)] [] (xS b L s)) (R := fun x => some (.inl (some (.int x)), xS b L s)) n (fun k hk => ?_) ?_
  · rw [B_Sc_whoIsOn_2]
    simp (disch := omega) only [sn_gF H, sn_gI H, sn_pI H, sn_pF H, xu_gF H.1, xu_gI H.1, pl_ix, ii_m1, ii_s1, obs, wF_1, wF_2, wA_1, wA_2, wR_1, wR_2, Nat.reduceEqDiff, Nat.reduceAdd, Nat.reduceMul, if_true, if_false, ite_true, ite_false, ii_la, ii_al, ii_lm, ii_ml, ii_add, ii_mul, ii_1, ii_le, ii_lt, ii_c1, ii_c2, ii_c3, ii_c4, ii_c5, ii_n1, ii_nn, kC0_v, kC1_v, kC2_v, kC3_v, kC0_x, kC1_x, kC2_x, not_true_eq_false, not_false_eq_true, ne_eq, hn]
    rw [if_neg (by omega)]
    by_cases h : s.2 z (8 + k) = t <;> simp [h]
  · rw [B_Sc_whoIsOn_2]
    simp (disch := omega) only [sn_gF H, sn_gI H, sn_pI H, sn_pF H, xu_gF H.1, xu_gI H.1, pl_ix, ii_m1, ii_s1, obs, wF_1, wF_2, wA_1, wA_2, wR_1, wR_2, Nat.reduceEqDiff, Nat.reduceAdd, Nat.reduceMul, if_true, if_false, ite_true, ite_false, ii_la, ii_al, ii_lm, ii_ml, ii_add, ii_mul, ii_1, ii_le, ii_lt, ii_c1, ii_c2, ii_c3, ii_c4, ii_c5, ii_n1, ii_nn, kC0_v, kC1_v, kC2_v, kC3_v, kC0_x, kC1_x, kC2_x, not_true_eq_false, not_false_eq_true, ne_eq, hn]
    rw [if_pos (by omega)]
theorem c_S_cellOf (d : Nat) (s : pS) (t p : Nat) : call (d + 1) m_Sc_cellOf [.int (Int32.ofNat t), .int (Int32.ofNat p)] s = some (.inl (some (.int (Int32.ofNat (t * 6 + p)))), s) := by
  refine cR.trans ((B_Sc_cellOf_0 _ _ _ _).trans ?_)
  simp only [ii_m1, ii_s1, obs, wF_1, wF_2, wA_1, wA_2, wR_1, wR_2, Nat.reduceEqDiff, Nat.reduceAdd, Nat.reduceMul, if_true, if_false, ite_true, ite_false, ii_la, ii_al, ii_lm, ii_ml, ii_add, ii_mul, ii_1, ii_le, ii_lt, ii_c1, ii_c2, ii_c3, ii_c4, ii_c5, ii_n1, ii_nn, kC0_v, kC1_v, kC2_v, kC3_v, kC0_x, kC1_x, kC2_x, not_true_eq_false, not_false_eq_true, ne_eq]
theorem c_S_amount (d : Nat) {b : pS} {L : xA} {s : rT} {a z : Nat} (H : SN L a z) (t p : Nat) (ht : t < 8) (hp : p < 6) : vcall (d + 2) m_Sc_amount [.ref a, .int (Int32.ofNat t), .int (Int32.ofNat p)] (xS b L s) = some (.inl (some (.int (s.2 z (26 + 6 * t + p)))), xS b L s) := by
  refine (vS H rfl).trans ((B_Sc_amount_0 _ _ _ _ _).trans ?_)
  simp (disch := omega) only [sn_gF H, sn_gI H, sn_pI H, sn_pF H, xu_gF H.1, xu_gI H.1, pl_ix, ii_m1, ii_s1, obs, wF_1, wF_2, wA_1, wA_2, wR_1, wR_2, Nat.reduceEqDiff, Nat.reduceAdd, Nat.reduceMul, if_true, if_false, ite_true, ite_false, ii_la, ii_al, ii_lm, ii_ml, ii_add, ii_mul, ii_1, ii_le, ii_lt, ii_c1, ii_c2, ii_c3, ii_c4, ii_c5, ii_n1, ii_nn, kC0_v, kC1_v, kC2_v, kC3_v, kC0_x, kC1_x, kC2_x, not_true_eq_false, not_false_eq_true, ne_eq, c_S_cellOf d]
theorem c_S_onSeat (d : Nat) {b : pS} {L : xA} {s : rT} {a z m n : Nat} (H : SN L a z) (C : Cn s m n) (t : Nat) (ht : t < 8) : vcall (d + 3) m_Sc_onSeat [.ref a, .int (Int32.ofNat t)] (xS b L s) = some (.inl (some (.int (sAll n (s.2 z) t))), xS b L s) := by
  obtain ⟨hm, h8, hn, h6⟩ := C
  refine (vS H rfl).trans ((B_Sc_onSeat_0 _ _ _ _).trans ?_)
  refine (fo_loop (F := fun k c => den (d + 2) m_Sc_onSeat 4 [.ref a, .int (Int32.ofNat t), .int c, .int (Int32.ofNat k)] [] (xS b L s)) (f := fun p c => c + s.2 z (26 + 6 * t + p)) n (fun k c hk => ?_) 0).trans ?_
  · rw [B_Sc_onSeat_4]
    simp (disch := omega) only [sn_gF H, sn_gI H, sn_pI H, sn_pF H, xu_gF H.1, xu_gI H.1, pl_ix, ii_m1, ii_s1, obs, wF_1, wF_2, wA_1, wA_2, wR_1, wR_2, Nat.reduceEqDiff, Nat.reduceAdd, Nat.reduceMul, if_true, if_false, ite_true, ite_false, ii_la, ii_al, ii_lm, ii_ml, ii_add, ii_mul, ii_1, ii_le, ii_lt, ii_c1, ii_c2, ii_c3, ii_c4, ii_c5, ii_n1, ii_nn, kC0_v, kC1_v, kC2_v, kC3_v, kC0_x, kC1_x, kC2_x, not_true_eq_false, not_false_eq_true, ne_eq, hn, c_S_amount d H]
    rw [if_neg (by omega)]
  · rw [B_Sc_onSeat_4]
    simp (disch := omega) only [sn_gF H, sn_gI H, sn_pI H, sn_pF H, xu_gF H.1, xu_gI H.1, pl_ix, ii_m1, ii_s1, obs, wF_1, wF_2, wA_1, wA_2, wR_1, wR_2, Nat.reduceEqDiff, Nat.reduceAdd, Nat.reduceMul, if_true, if_false, ite_true, ite_false, ii_la, ii_al, ii_lm, ii_ml, ii_add, ii_mul, ii_1, ii_le, ii_lt, ii_c1, ii_c2, ii_c3, ii_c4, ii_c5, ii_n1, ii_nn, kC0_v, kC1_v, kC2_v, kC3_v, kC0_x, kC1_x, kC2_x, not_true_eq_false, not_false_eq_true, ne_eq, hn]
    rw [if_pos (by omega)]; rfl
theorem c_S_onPlate (d : Nat) {b : pS} {L : xA} {s : rT} {a z m n : Nat} (H : SN L a z) (C : Cn s m n) : vcall (d + 4) m_Sc_onPlate [.ref a] (xS b L s) = some (.inl (some (.int (sPlate m n (s.2 z)))), xS b L s) := by
  have C' := C
  obtain ⟨hm, h8, hn, h6⟩ := C
  refine (vS H rfl).trans ((B_Sc_onPlate_0 _ _ _).trans ?_)
  refine (fo_loop (F := fun k c => den (d + 3) m_Sc_onPlate 4 [.ref a, .int c, .int (Int32.ofNat k)] [] (xS b L s)) (f := fun t c => c + sAll n (s.2 z) t) m (fun k c hk => ?_) 0).trans ?_
  · rw [B_Sc_onPlate_4]
    simp (disch := omega) only [sn_gF H, sn_gI H, sn_pI H, sn_pF H, xu_gF H.1, xu_gI H.1, pl_ix, ii_m1, ii_s1, obs, wF_1, wF_2, wA_1, wA_2, wR_1, wR_2, Nat.reduceEqDiff, Nat.reduceAdd, Nat.reduceMul, if_true, if_false, ite_true, ite_false, ii_la, ii_al, ii_lm, ii_ml, ii_add, ii_mul, ii_1, ii_le, ii_lt, ii_c1, ii_c2, ii_c3, ii_c4, ii_c5, ii_n1, ii_nn, kC0_v, kC1_v, kC2_v, kC3_v, kC0_x, kC1_x, kC2_x, not_true_eq_false, not_false_eq_true, ne_eq, hm, c_S_onSeat d H C']
    rw [if_neg (by omega)]
  · rw [B_Sc_onPlate_4]
    simp (disch := omega) only [sn_gF H, sn_gI H, sn_pI H, sn_pF H, xu_gF H.1, xu_gI H.1, pl_ix, ii_m1, ii_s1, obs, wF_1, wF_2, wA_1, wA_2, wR_1, wR_2, Nat.reduceEqDiff, Nat.reduceAdd, Nat.reduceMul, if_true, if_false, ite_true, ite_false, ii_la, ii_al, ii_lm, ii_ml, ii_add, ii_mul, ii_1, ii_le, ii_lt, ii_c1, ii_c2, ii_c3, ii_c4, ii_c5, ii_n1, ii_nn, kC0_v, kC1_v, kC2_v, kC3_v, kC0_x, kC1_x, kC2_x, not_true_eq_false, not_false_eq_true, ne_eq, hm]
    rw [if_pos (by omega)]; rfl
theorem c_S_allOf (d : Nat) {b : pS} {L : xA} {s : rT} {a z m n : Nat} (H : SN L a z) (C : Cn s m n) (p : Nat) (hp : p < 6) : vcall (d + 3) m_Sc_allOf [.ref a, .int (Int32.ofNat p)] (xS b L s) = some (.inl (some (.int (sAllOf m (s.2 z) p))), xS b L s) := by
  obtain ⟨hm, h8, hn, h6⟩ := C
  refine (vS H rfl).trans ((B_Sc_allOf_0 _ _ _ _).trans ?_)
  refine (fo_loop (F := fun k c => den (d + 2) m_Sc_allOf 4 [.ref a, .int (Int32.ofNat p), .int c, .int (Int32.ofNat k)] [] (xS b L s)) (f := fun t c => c + s.2 z (26 + 6 * t + p)) m (fun k c hk => ?_) 0).trans ?_
  · rw [B_Sc_allOf_4]
    simp (disch := omega) only [sn_gF H, sn_gI H, sn_pI H, sn_pF H, xu_gF H.1, xu_gI H.1, pl_ix, ii_m1, ii_s1, obs, wF_1, wF_2, wA_1, wA_2, wR_1, wR_2, Nat.reduceEqDiff, Nat.reduceAdd, Nat.reduceMul, if_true, if_false, ite_true, ite_false, ii_la, ii_al, ii_lm, ii_ml, ii_add, ii_mul, ii_1, ii_le, ii_lt, ii_c1, ii_c2, ii_c3, ii_c4, ii_c5, ii_n1, ii_nn, kC0_v, kC1_v, kC2_v, kC3_v, kC0_x, kC1_x, kC2_x, not_true_eq_false, not_false_eq_true, ne_eq, hm, c_S_amount d H]
    rw [if_neg (by omega)]
  · rw [B_Sc_allOf_4]
    simp (disch := omega) only [sn_gF H, sn_gI H, sn_pI H, sn_pF H, xu_gF H.1, xu_gI H.1, pl_ix, ii_m1, ii_s1, obs, wF_1, wF_2, wA_1, wA_2, wR_1, wR_2, Nat.reduceEqDiff, Nat.reduceAdd, Nat.reduceMul, if_true, if_false, ite_true, ite_false, ii_la, ii_al, ii_lm, ii_ml, ii_add, ii_mul, ii_1, ii_le, ii_lt, ii_c1, ii_c2, ii_c3, ii_c4, ii_c5, ii_n1, ii_nn, kC0_v, kC1_v, kC2_v, kC3_v, kC0_x, kC1_x, kC2_x, not_true_eq_false, not_false_eq_true, ne_eq, hm]
    rw [if_pos (by omega)]; rfl
theorem c_S_selvesOf (d : Nat) {b : pS} {L : xA} {s : rT} {a z m n : Nat} (H : SN L a z) (C : Cn s m n) (p : Nat) (hp : p < 6) : vcall (d + 3) m_Sc_selvesOf [.ref a, .int (Int32.ofNat p)] (xS b L s) = some (.inl (some (.int (sSelves m (s.2 z) p))), xS b L s) := by
  obtain ⟨hm, h8, hn, h6⟩ := C
  refine (vS H rfl).trans ((B_Sc_selvesOf_0 _ _ _ _).trans ?_)
  refine (fo_loop (F := fun k c => den (d + 2) m_Sc_selvesOf 4 [.ref a, .int (Int32.ofNat p), .int c, .int (Int32.ofNat k)] [] (xS b L s)) (f := fun t c => if 0 < s.2 z (26 + 6 * t + p) then c ||| (1 <<< (Int32.ofNat t &&& 31)) else c) m (fun k c hk => ?_) 0).trans ?_
  · rw [B_Sc_selvesOf_4]
    simp (disch := omega) only [sn_gF H, sn_gI H, sn_pI H, sn_pF H, xu_gF H.1, xu_gI H.1, pl_ix, ii_m1, ii_s1, obs, wF_1, wF_2, wA_1, wA_2, wR_1, wR_2, Nat.reduceEqDiff, Nat.reduceAdd, Nat.reduceMul, if_true, if_false, ite_true, ite_false, ii_la, ii_al, ii_lm, ii_ml, ii_add, ii_mul, ii_1, ii_le, ii_lt, ii_c1, ii_c2, ii_c3, ii_c4, ii_c5, ii_n1, ii_nn, kC0_v, kC1_v, kC2_v, kC3_v, kC0_x, kC1_x, kC2_x, not_true_eq_false, not_false_eq_true, ne_eq, hm, c_S_amount d H]
    rw [if_neg (by omega)]
    by_cases h : s.2 z (26 + 6 * k + p) ≤ 0
    · have h2 : ¬ 0 < s.2 z (26 + 6 * k + p) := Int32.not_lt.mpr h
      rw [if_pos h, if_neg h2]
    · have h2 : 0 < s.2 z (26 + 6 * k + p) := Int32.not_le.mp h
      rw [if_neg h, if_pos h2]
  · rw [B_Sc_selvesOf_4]
    simp (disch := omega) only [sn_gF H, sn_gI H, sn_pI H, sn_pF H, xu_gF H.1, xu_gI H.1, pl_ix, ii_m1, ii_s1, obs, wF_1, wF_2, wA_1, wA_2, wR_1, wR_2, Nat.reduceEqDiff, Nat.reduceAdd, Nat.reduceMul, if_true, if_false, ite_true, ite_false, ii_la, ii_al, ii_lm, ii_ml, ii_add, ii_mul, ii_1, ii_le, ii_lt, ii_c1, ii_c2, ii_c3, ii_c4, ii_c5, ii_n1, ii_nn, kC0_v, kC1_v, kC2_v, kC3_v, kC0_x, kC1_x, kC2_x, not_true_eq_false, not_false_eq_true, ne_eq, hm]
    rw [if_pos (by omega)]; rfl
theorem c_S_seenOn (d : Nat) {b : pS} {L : xA} {s : rT} {a z m n : Nat} (H : SN L a z) (C : Cn s m n) (t : Nat) (ht : t < 8) : vcall (d + 4) m_Sc_seenOn [.ref a, .int (Int32.ofNat t)] (xS b L s) = some (.inl (some (.int (sSeen n (s.2 z) t))), xS b L s) := by
  have C' := C
  obtain ⟨hm, h8, hn, h6⟩ := C
  refine (vS H rfl).trans ((B_Sc_seenOn_0 _ _ _ _).trans ?_)
  simp (disch := omega) only [sn_gF H, sn_gI H, sn_pI H, sn_pF H, xu_gF H.1, xu_gI H.1, pl_ix, ii_m1, ii_s1, obs, wF_1, wF_2, wA_1, wA_2, wR_1, wR_2, Nat.reduceEqDiff, Nat.reduceAdd, Nat.reduceMul, if_true, if_false, ite_true, ite_false, ii_la, ii_al, ii_lm, ii_ml, ii_add, ii_mul, ii_1, ii_le, ii_lt, ii_c1, ii_c2, ii_c3, ii_c4, ii_c5, ii_n1, ii_nn, kC0_v, kC1_v, kC2_v, kC3_v, kC0_x, kC1_x, kC2_x, not_true_eq_false, not_false_eq_true, ne_eq, c_S_onSeat d H C']
  refine fs_loop (F := fun k => den (d + 3) m_Sc_seenOn 8 [.ref a, .int (Int32.ofNat t), .int (sAll n (s.2 z) t), .int (Int32.ofNat k)] [] (xS b L s)) (R := fun x => some (.inl (some (.int x)), xS b L s)) n (fun k hk => ?_) ?_
  · rw [B_Sc_seenOn_8]
    simp (disch := omega) only [sn_gF H, sn_gI H, sn_pI H, sn_pF H, xu_gF H.1, xu_gI H.1, pl_ix, ii_m1, ii_s1, obs, wF_1, wF_2, wA_1, wA_2, wR_1, wR_2, Nat.reduceEqDiff, Nat.reduceAdd, Nat.reduceMul, if_true, if_false, ite_true, ite_false, ii_la, ii_al, ii_lm, ii_ml, ii_add, ii_mul, ii_1, ii_le, ii_lt, ii_c1, ii_c2, ii_c3, ii_c4, ii_c5, ii_n1, ii_nn, kC0_v, kC1_v, kC2_v, kC3_v, kC0_x, kC1_x, kC2_x, not_true_eq_false, not_false_eq_true, ne_eq, hn, c_S_amount (d + 1) H]
    rw [if_neg (by omega)]
    by_cases h : 2 * s.2 z (26 + 6 * t + k) ≤ sAll n (s.2 z) t
    · have : ¬ sAll n (s.2 z) t < 2 * s.2 z (26 + 6 * t + k) := Int32.not_lt.mpr h
      simp [h, this]
    · have h1 : sAll n (s.2 z) t < 2 * s.2 z (26 + 6 * t + k) := Int32.not_le.mp h
      simp [h, h1]
  · rw [B_Sc_seenOn_8]
    simp (disch := omega) only [sn_gF H, sn_gI H, sn_pI H, sn_pF H, xu_gF H.1, xu_gI H.1, pl_ix, ii_m1, ii_s1, obs, wF_1, wF_2, wA_1, wA_2, wR_1, wR_2, Nat.reduceEqDiff, Nat.reduceAdd, Nat.reduceMul, if_true, if_false, ite_true, ite_false, ii_la, ii_al, ii_lm, ii_ml, ii_add, ii_mul, ii_1, ii_le, ii_lt, ii_c1, ii_c2, ii_c3, ii_c4, ii_c5, ii_n1, ii_nn, kC0_v, kC1_v, kC2_v, kC3_v, kC0_x, kC1_x, kC2_x, not_true_eq_false, not_false_eq_true, ne_eq, hn]
    rw [if_pos (by omega)]
theorem c_S_whereSeen (d : Nat) {b : pS} {L : xA} {s : rT} {a z m n : Nat} (H : SN L a z) (C : Cn s m n) (p : Nat) (hp : p < 6) : vcall (d + 5) m_Sc_whereSeen [.ref a, .int (Int32.ofNat p)] (xS b L s) = some (.inl (some (.int (sWhere m n (s.2 z) p))), xS b L s) := by
  have C' := C
  obtain ⟨hm, h8, hn, h6⟩ := C
  refine (vS H rfl).trans ((B_Sc_whereSeen_0 _ _ _ _).trans ?_)
  refine (fo_loop (F := fun k c => den (d + 4) m_Sc_whereSeen 4 [.ref a, .int (Int32.ofNat p), .int c, .int (Int32.ofNat k)] [] (xS b L s)) (f := fun t c => if sSeen n (s.2 z) t = Int32.ofNat p then c ||| (1 <<< (Int32.ofNat t &&& 31)) else c) m (fun k c hk => ?_) 0).trans ?_
  · rw [B_Sc_whereSeen_4]
    simp (disch := omega) only [sn_gF H, sn_gI H, sn_pI H, sn_pF H, xu_gF H.1, xu_gI H.1, pl_ix, ii_m1, ii_s1, obs, wF_1, wF_2, wA_1, wA_2, wR_1, wR_2, Nat.reduceEqDiff, Nat.reduceAdd, Nat.reduceMul, if_true, if_false, ite_true, ite_false, ii_la, ii_al, ii_lm, ii_ml, ii_add, ii_mul, ii_1, ii_le, ii_lt, ii_c1, ii_c2, ii_c3, ii_c4, ii_c5, ii_n1, ii_nn, kC0_v, kC1_v, kC2_v, kC3_v, kC0_x, kC1_x, kC2_x, not_true_eq_false, not_false_eq_true, ne_eq, hm, c_S_seenOn d H C']
    rw [if_neg (by omega)]
    by_cases h : sSeen n (s.2 z) k = Int32.ofNat p <;> simp [h]
  · rw [B_Sc_whereSeen_4]
    simp (disch := omega) only [sn_gF H, sn_gI H, sn_pI H, sn_pF H, xu_gF H.1, xu_gI H.1, pl_ix, ii_m1, ii_s1, obs, wF_1, wF_2, wA_1, wA_2, wR_1, wR_2, Nat.reduceEqDiff, Nat.reduceAdd, Nat.reduceMul, if_true, if_false, ite_true, ite_false, ii_la, ii_al, ii_lm, ii_ml, ii_add, ii_mul, ii_1, ii_le, ii_lt, ii_c1, ii_c2, ii_c3, ii_c4, ii_c5, ii_n1, ii_nn, kC0_v, kC1_v, kC2_v, kC3_v, kC0_x, kC1_x, kC2_x, not_true_eq_false, not_false_eq_true, ne_eq, hm]
    rw [if_pos (by omega)]; rfl
theorem c_S_unseen (d : Nat) {b : pS} {L : xA} {s : rT} {a z m n : Nat} (H : SN L a z) (C : Cn s m n) : vcall (d + 5) m_Sc_unseen [.ref a] (xS b L s) = some (.inl (some (.int (sUnseen m n (s.2 z)))), xS b L s) := by
  have C' := C
  obtain ⟨hm, h8, hn, h6⟩ := C
  refine (vS H rfl).trans ((B_Sc_unseen_0 _ _ _).trans ?_)
  simp (disch := omega) only [sn_gF H, sn_gI H, sn_pI H, sn_pF H, xu_gF H.1, xu_gI H.1, pl_ix, ii_m1, ii_s1, obs, wF_1, wF_2, wA_1, wA_2, wR_1, wR_2, Nat.reduceEqDiff, Nat.reduceAdd, Nat.reduceMul, if_true, if_false, ite_true, ite_false, ii_la, ii_al, ii_lm, ii_ml, ii_add, ii_mul, ii_1, ii_le, ii_lt, ii_c1, ii_c2, ii_c3, ii_c4, ii_c5, ii_n1, ii_nn, kC0_v, kC1_v, kC2_v, kC3_v, kC0_x, kC1_x, kC2_x, not_true_eq_false, not_false_eq_true, ne_eq, hn]
  refine (ex_loop (F := fun k (c : Int32 × Value) => den (d + 4) m_Sc_unseen 14 [.ref a, .int c.1, .int (Int32.ofNat k), c.2] [] (xS b L s)) (I := fun k c => c.1 = fo (fun t c => if sSeen n (s.2 z) t = -1 then c else c &&& ((1 <<< (sSeen n (s.2 z) t &&& 31)) ^^^ (-1))) k ((1 <<< (Int32.ofNat n &&& 31)) - 1)) m ((1 <<< (Int32.ofNat n &&& 31)) - 1, mk0) rfl (fun k c hk hc => ?_)).elim (fun c hc => hc.1.trans ?_)
  · refine ⟨(if sSeen n (s.2 z) k = -1 then c.1 else c.1 &&& ((1 <<< (sSeen n (s.2 z) k &&& 31)) ^^^ (-1)), .int (sSeen n (s.2 z) k)), ?_, ?_⟩
    · dsimp only
      rw [B_Sc_unseen_14]
      simp (disch := omega) only [sn_gF H, sn_gI H, sn_pI H, sn_pF H, xu_gF H.1, xu_gI H.1, pl_ix, ii_m1, ii_s1, obs, wF_1, wF_2, wA_1, wA_2, wR_1, wR_2, Nat.reduceEqDiff, Nat.reduceAdd, Nat.reduceMul, if_true, if_false, ite_true, ite_false, ii_la, ii_al, ii_lm, ii_ml, ii_add, ii_mul, ii_1, ii_le, ii_lt, ii_c1, ii_c2, ii_c3, ii_c4, ii_c5, ii_n1, ii_nn, kC0_v, kC1_v, kC2_v, kC3_v, kC0_x, kC1_x, kC2_x, not_true_eq_false, not_false_eq_true, ne_eq, hm, c_S_seenOn d H C']
      rw [if_neg (by omega)]
      by_cases h : sSeen n (s.2 z) k = -1 <;> simp [h]
    · dsimp only
      rw [hc]
      rfl
  · show den _ _ _ _ _ _ = _
    rw [B_Sc_unseen_14]
    simp (disch := omega) only [sn_gF H, sn_gI H, sn_pI H, sn_pF H, xu_gF H.1, xu_gI H.1, pl_ix, ii_m1, ii_s1, obs, wF_1, wF_2, wA_1, wA_2, wR_1, wR_2, Nat.reduceEqDiff, Nat.reduceAdd, Nat.reduceMul, if_true, if_false, ite_true, ite_false, ii_la, ii_al, ii_lm, ii_ml, ii_add, ii_mul, ii_1, ii_le, ii_lt, ii_c1, ii_c2, ii_c3, ii_c4, ii_c5, ii_n1, ii_nn, kC0_v, kC1_v, kC2_v, kC3_v, kC0_x, kC1_x, kC2_x, not_true_eq_false, not_false_eq_true, ne_eq, hm]
    rw [if_pos (by omega), hc.2]; rfl
