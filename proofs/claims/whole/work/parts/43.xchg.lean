/-! THE PROGRAM: marks, and how it changes a scene -/
def bcI (l0 : Int32) : Int32 := ((((((((l0 - ((((l0 : Int32).toUInt32 >>> ((1 : Int32).toUInt32 &&& Int32.toUInt32 31)).toInt32) &&& 1431655765)) &&& 858993459) + (((((l0 - ((((l0 : Int32).toUInt32 >>> ((1 : Int32).toUInt32 &&& Int32.toUInt32 31)).toInt32) &&& 1431655765)) : Int32).toUInt32 >>> ((2 : Int32).toUInt32 &&& Int32.toUInt32 31)).toInt32) &&& 858993459)) + ((((((l0 - ((((l0 : Int32).toUInt32 >>> ((1 : Int32).toUInt32 &&& Int32.toUInt32 31)).toInt32) &&& 1431655765)) &&& 858993459) + (((((l0 - ((((l0 : Int32).toUInt32 >>> ((1 : Int32).toUInt32 &&& Int32.toUInt32 31)).toInt32) &&& 1431655765)) : Int32).toUInt32 >>> ((2 : Int32).toUInt32 &&& Int32.toUInt32 31)).toInt32) &&& 858993459)) : Int32).toUInt32 >>> ((4 : Int32).toUInt32 &&& Int32.toUInt32 31)).toInt32)) &&& 252645135) + ((((((((l0 - ((((l0 : Int32).toUInt32 >>> ((1 : Int32).toUInt32 &&& Int32.toUInt32 31)).toInt32) &&& 1431655765)) &&& 858993459) + (((((l0 - ((((l0 : Int32).toUInt32 >>> ((1 : Int32).toUInt32 &&& Int32.toUInt32 31)).toInt32) &&& 1431655765)) : Int32).toUInt32 >>> ((2 : Int32).toUInt32 &&& Int32.toUInt32 31)).toInt32) &&& 858993459)) + ((((((l0 - ((((l0 : Int32).toUInt32 >>> ((1 : Int32).toUInt32 &&& Int32.toUInt32 31)).toInt32) &&& 1431655765)) &&& 858993459) + (((((l0 - ((((l0 : Int32).toUInt32 >>> ((1 : Int32).toUInt32 &&& Int32.toUInt32 31)).toInt32) &&& 1431655765)) : Int32).toUInt32 >>> ((2 : Int32).toUInt32 &&& Int32.toUInt32 31)).toInt32) &&& 858993459)) : Int32).toUInt32 >>> ((4 : Int32).toUInt32 &&& Int32.toUInt32 31)).toInt32)) &&& 252645135) : Int32).toUInt32 >>> ((8 : Int32).toUInt32 &&& Int32.toUInt32 31)).toInt32)) + (((((((((l0 - ((((l0 : Int32).toUInt32 >>> ((1 : Int32).toUInt32 &&& Int32.toUInt32 31)).toInt32) &&& 1431655765)) &&& 858993459) + (((((l0 - ((((l0 : Int32).toUInt32 >>> ((1 : Int32).toUInt32 &&& Int32.toUInt32 31)).toInt32) &&& 1431655765)) : Int32).toUInt32 >>> ((2 : Int32).toUInt32 &&& Int32.toUInt32 31)).toInt32) &&& 858993459)) + ((((((l0 - ((((l0 : Int32).toUInt32 >>> ((1 : Int32).toUInt32 &&& Int32.toUInt32 31)).toInt32) &&& 1431655765)) &&& 858993459) + (((((l0 - ((((l0 : Int32).toUInt32 >>> ((1 : Int32).toUInt32 &&& Int32.toUInt32 31)).toInt32) &&& 1431655765)) : Int32).toUInt32 >>> ((2 : Int32).toUInt32 &&& Int32.toUInt32 31)).toInt32) &&& 858993459)) : Int32).toUInt32 >>> ((4 : Int32).toUInt32 &&& Int32.toUInt32 31)).toInt32)) &&& 252645135) + ((((((((l0 - ((((l0 : Int32).toUInt32 >>> ((1 : Int32).toUInt32 &&& Int32.toUInt32 31)).toInt32) &&& 1431655765)) &&& 858993459) + (((((l0 - ((((l0 : Int32).toUInt32 >>> ((1 : Int32).toUInt32 &&& Int32.toUInt32 31)).toInt32) &&& 1431655765)) : Int32).toUInt32 >>> ((2 : Int32).toUInt32 &&& Int32.toUInt32 31)).toInt32) &&& 858993459)) + ((((((l0 - ((((l0 : Int32).toUInt32 >>> ((1 : Int32).toUInt32 &&& Int32.toUInt32 31)).toInt32) &&& 1431655765)) &&& 858993459) + (((((l0 - ((((l0 : Int32).toUInt32 >>> ((1 : Int32).toUInt32 &&& Int32.toUInt32 31)).toInt32) &&& 1431655765)) : Int32).toUInt32 >>> ((2 : Int32).toUInt32 &&& Int32.toUInt32 31)).toInt32) &&& 858993459)) : Int32).toUInt32 >>> ((4 : Int32).toUInt32 &&& Int32.toUInt32 31)).toInt32)) &&& 252645135) : Int32).toUInt32 >>> ((8 : Int32).toUInt32 &&& Int32.toUInt32 31)).toInt32)) : Int32).toUInt32 >>> ((16 : Int32).toUInt32 &&& Int32.toUInt32 31)).toInt32)) &&& 63)
theorem bc_64 : ∀ j : Fin 64, bcI (Int32.ofNat j.val) = onesI (Int32.ofNat j.val) := by decide +kernel
theorem or_64 : ∀ j : Fin 64, ∀ k : Fin 6, (j.val ||| 2 ^ k.val) < 64 ∧ (Int32.ofNat j.val ||| (1 <<< (Int32.ofNat k.val &&& 31))) = Int32.ofNat (j.val ||| 2 ^ k.val) := by decide +kernel
theorem sSits_64 (n : Nat) (h6 : n ≤ 6) (v : Nat → Int32) : ∃ j, j < 64 ∧ sSits n v = Int32.ofNat j := by
  refine fo_inv (I := fun _ a => ∃ j, j < 64 ∧ a = Int32.ofNat j) n 0 ⟨0, by decide, rfl⟩ (fun k a hk ha => ?_)
  obtain ⟨j, hj, rfl⟩ := ha
  split
  · exact ⟨j, hj, rfl⟩
  · have := or_64 ⟨j, hj⟩ ⟨k, by omega⟩
    exact ⟨_, this.1, this.2⟩
theorem c_J_bitCount (d : Nat) (s : pS) (n : Nat) (h6 : n ≤ 6) (v : Nat → Int32) : call (d + 1) m_J_bitCount [.int (sSits n v)] s = some (.inl (some (.int (onesI (sSits n v)))), s) := by
  obtain ⟨j, hj, e⟩ := sSits_64 n h6 v
  rw [e]
  exact cR.trans ((B_J_bitCount_0 _ _ _).trans (congrArg (fun z => some (Sum.inl (some (Value.int z)), s)) (bc_64 ⟨j, hj⟩)))
/-- the law that the program holds -/
def xLaw (s : rT) (l : List Nat) : Prop := s.1 53 = Int32.ofNat (lx l).length ∧ (lx l).length ≤ 150 ∧ hgt (lx l) 0 = true ∧ ∀ i, i < (lx l).length → s.2 21 i = Int32.ofNat ((lx l).getD i 0)
theorem Kf.xlaw {F A : List Nat} {s s' : rT} {l : List Nat} (h : Kf F A s s') (hl : xLaw s l) (e1 : 53 ∉ F := by decide) (e2 : 21 ∉ A := by decide) : xLaw s' l := ⟨(h.1 _ e1).trans hl.1, hl.2.1, hl.2.2.1, fun i hi => by rw [h.2 21 e2]; exact hl.2.2.2 i hi⟩
theorem Kf.xcn {F A : List Nat} {s s' : rT} {m n : Nat} (h : Kf F A s s') (C : Cn s m n) (e1 : 44 ∉ F := by decide) (e2 : 45 ∉ F := by decide) : Cn s' m n := ⟨(h.1 _ e1).trans C.1, C.2.1, (h.1 _ e2).trans C.2.2.1, C.2.2.2⟩
theorem min_i (x y : Int32) : (if y < x then y else x) = (if x < y then x else y) := by
  by_cases h1 : y < x
  · have h2 : ¬ x < y := Int32.not_lt.mpr (Int32.le_of_lt h1)
    rw [if_pos h1, if_neg h2]
  · by_cases h2 : x < y
    · rw [if_neg h1, if_pos h2]
    · rw [if_neg h1, if_neg h2]
      exact Int32.le_antisymm (Int32.not_lt.mp h1) (Int32.not_lt.mp h2)
theorem cf_n1 {μ fs v : Nat → Int32} {k k2 : Nat} (hk : k < 6) (h : v (8 + k) = -1) : cfS μ fs v k k2 = cfS μ fs v (k + 1) k2 := by
  refine cf_ext (fun i hi => ?_) (fun p hp => ?_) (fun p hp => ?_) (fun p hp => ?_) (fun t p ht hp => ?_) (fun i hi => ?_)
  · rw [cf_0 hi, cf_0 hi]
  · rw [cf_8 hp, cf_8 hp]
  · rw [cf_14 hp, cf_14 hp]
    by_cases e : p = k
    · subst e; simp [h]
    · simp only [lt_s1 e]
  · rw [cf_20 hp, cf_20 hp]
  · rw [cf_26 ht hp, cf_26 ht hp]
    by_cases e : p = k
    · subst e
      rw [if_neg (by simp), if_neg (fun h2 => by have := ii_n1 (a := t) (by omega); rw [← h2.2, h] at this; simp at this)]
    · simp only [lt_s1 e]
  · rw [cf_74 hi, cf_74 hi]
theorem clI_x (x : Int32) : (if (0 : Int32) < (if x < 99 then x else 99) then (if x < 99 then x else 99) else 0) = clI x := by
  unfold clI
  by_cases h1 : x < 0
  · have h2 : x < 99 := Int32.lt_trans h1 (by decide)
    have h3 : ¬ 0 < x := Int32.not_lt.mpr (Int32.le_of_lt h1)
    rw [if_pos h2, if_neg h3, if_pos h1]
  · rw [if_neg h1]
    by_cases h2 : x < 99
    · have h4 : ¬ 99 < x := Int32.not_lt.mpr (Int32.le_of_lt h2)
      rw [if_pos h2, if_neg h4]
      by_cases h3 : 0 < x
      · rw [if_pos h3]
      · rw [if_neg h3]; exact Int32.le_antisymm (Int32.not_lt.mp h1) (Int32.not_lt.mp h3)
    · rw [if_neg h2, if_pos (by decide)]
      by_cases h3 : 99 < x
      · rw [if_pos h3]
      · rw [if_neg h3]; exact Int32.le_antisymm (Int32.not_lt.mp h2) (Int32.not_lt.mp h3)
theorem c_W_join (d : Nat) (s : pS) (c : Nat) (h1 : 1008 ≤ c) (h2 : c < 1015) (x y : Int32) : call (d + 1) m_Lw_join [.int (Int32.ofNat c), .int x, .int y] s = some (.inl (some (.int (opI c x y))), s) := by
  refine cR.trans ((B_Lw_join_0 _ _ _ _ _).trans ?_)
  have hc : c = 1008 ∨ c = 1009 ∨ c = 1010 ∨ c = 1011 ∨ c = 1012 ∨ c = 1013 ∨ c = 1014 := by omega
  rcases hc with rfl | rfl | rfl | rfl | rfl | rfl | rfl
  · rfl
  · rfl
  · rfl
  · rw [if_neg (by decide), if_neg (by decide), if_neg (by decide), if_pos (by decide)]
    by_cases h : y = 0 <;> simp [h, opI]
  · rw [if_neg (by decide), if_neg (by decide), if_neg (by decide), if_neg (by decide), if_pos (by decide)]
    by_cases h : y = 0 <;> simp [h, opI]
  · rw [if_neg (by decide), if_neg (by decide), if_neg (by decide), if_neg (by decide), if_neg (by decide), if_pos (by decide), min_i]
    rfl
  · rfl
theorem c_W_valueOf (d : Nat) {b : pS} {L : xA} {s : rT} (D : Dj L) (c : Nat) (h : c < 1008) : vcall (d + 1) m_Lw_valueOf [.ref (aW L), .int (Int32.ofNat c)] (xS b L s) = some (.inl (some (.int (if c < 1000 then Int32.ofNat c else s.2 23 (c - 1000)))), xS b L s) := by
  refine (vW D rfl).trans ((B_Lw_valueOf_0 _ _ _ _).trans ?_)
  by_cases h1 : c < 1000
  · have e0 : Int32.ofNat c - 1000 < 0 := ii_sn (a := c) (c := 1000) h1 (by decide)
    rw [if_pos e0, if_pos h1]
  · have e : Int32.ofNat c - 1000 = Int32.ofNat (c - 1000) := ii_sub (a := c) (c := 1000) (by omega)
    rw [e]
    simp (disch := omega) only [xw_gF D, xw_gI D, xw_pI D, xw_gN D, xw_pIl D, ii_m1, ii_s1, obs, wF_1, wF_2, wA_1, wA_2, wR_1, wR_2, Nat.reduceEqDiff, Nat.reduceAdd, Nat.reduceMul, if_true, if_false, ite_true, ite_false, ii_la, ii_al, ii_lm, ii_ml, ii_add, ii_mul, ii_1, ii_le, ii_lt, ii_c1, ii_c2, ii_c3, ii_c4, ii_c5, ii_n1, ii_nn, kC0_v, kC1_v, kC2_v, kC3_v, kC0_x, kC1_x, kC2_x, not_true_eq_false, not_false_eq_true, ne_eq]
    rw [if_neg (by omega : ¬ 8 ≤ c - 1000), if_neg (by omega : ¬ c - 1000 < 0), if_neg h1]
theorem c_W_result (d : Nat) {b : pS} {L : xA} {s : rT} {l : List Nat} (D : Dj L) (hl : xLaw s l) : ∃ f, vcall (d + 2) m_Lw_result [.ref (aW L)] (xS b L s) = some (.inl (some (.int (clI ((evS (s.2 23) (lx l) []).headD 0)))), xS b L (wR s 22 f)) := by
  obtain ⟨h1, h2, hg, h4⟩ := hl
  generalize lx l = l at h1 h2 hg h4
  obtain ⟨⟨st, f, w⟩, e, i1, i2, i3, -⟩ := ex_loop (F := fun k (x : List Int32 × (Nat → Int32) × Value) => den (d + 1) m_Lw_result 4 [.ref (aW L), .int (Int32.ofNat x.1.length), .int (Int32.ofNat k), x.2.2] [] (xS b L (wR s 22 x.2.1))) (I := fun k x => stk x.2.1 x.1 ∧ evS (s.2 23) (l.drop k) x.1 = evS (s.2 23) l [] ∧ hgt (l.drop k) x.1.length = true ∧ x.1.length ≤ 64) l.length ([], s.2 22, mk0) ⟨stk_nil _, rfl, hg, Nat.zero_le 64⟩ (fun k x hk hx => by
    obtain ⟨st, f, w⟩ := x
    obtain ⟨i1, i2, i3, i4⟩ := hx
    dsimp only at i1 i2 i3 i4
    have h5 := h4 k hk
    rw [drop_c hk] at i2 i3
    rcases ev_st (fa := s.2 23) i3 with ⟨c1, c2, c3, c4⟩ | ⟨c1, c2, c3, c4, c5⟩ | ⟨c1, c2, x, y, st', rfl, c3, c4⟩
    · refine ⟨(Int32.ofNat (l.getD k 0) :: st, upd f st.length (Int32.ofNat (l.getD k 0)), .int (Int32.ofNat (l.getD k 0))), ?_, stk_push i1 _, c4.symm.trans i2, c3, c2⟩
      dsimp only
      rw [B_Lw_result_4]
      simp (disch := omega) only [xw_gF D, xw_gI D, xw_pI D, xw_gN D, xw_pIl D, ii_m1, ii_s1, obs, wF_1, wF_2, wA_1, wA_2, wR_1, wR_2, Nat.reduceEqDiff, Nat.reduceAdd, Nat.reduceMul, if_true, if_false, ite_true, ite_false, ii_la, ii_al, ii_lm, ii_ml, ii_add, ii_mul, ii_1, ii_le, ii_lt, ii_c1, ii_c2, ii_c3, ii_c4, ii_c5, ii_n1, ii_nn, kC0_v, kC1_v, kC2_v, kC3_v, kC0_x, kC1_x, kC2_x, not_true_eq_false, not_false_eq_true, ne_eq, h1, h5, List.length_cons, wA_wR, c_W_valueOf d D]
      rw [if_neg (by omega), if_neg (by omega), if_neg (by omega), if_neg (by omega), if_pos c1]
    · refine ⟨(s.2 23 (l.getD k 0 - 1000) :: st, upd f st.length (s.2 23 (l.getD k 0 - 1000)), .int (Int32.ofNat (l.getD k 0))), ?_, stk_push i1 _, c5.symm.trans i2, c4, c3⟩
      dsimp only
      rw [B_Lw_result_4]
      simp (disch := omega) only [xw_gF D, xw_gI D, xw_pI D, xw_gN D, xw_pIl D, ii_m1, ii_s1, obs, wF_1, wF_2, wA_1, wA_2, wR_1, wR_2, Nat.reduceEqDiff, Nat.reduceAdd, Nat.reduceMul, if_true, if_false, ite_true, ite_false, ii_la, ii_al, ii_lm, ii_ml, ii_add, ii_mul, ii_1, ii_le, ii_lt, ii_c1, ii_c2, ii_c3, ii_c4, ii_c5, ii_n1, ii_nn, kC0_v, kC1_v, kC2_v, kC3_v, kC0_x, kC1_x, kC2_x, not_true_eq_false, not_false_eq_true, ne_eq, h1, h5, List.length_cons, wA_wR, c_W_valueOf d D]
      rw [if_neg (by omega), if_neg (by omega), if_neg (by omega), if_neg (by omega), if_neg (by omega)]
    · have t1 : f (st'.length + 1) = y := stk_top i1
      have t2 : f st'.length = x := stk_top (stk_pop i1)
      have t3 : (y :: x :: st').length = st'.length + 1 + 1 := rfl
      have t4 : st'.length + 1 + 1 ≤ 64 := i4
      refine ⟨(opI (l.getD k 0) x y :: st', upd f st'.length (opI (l.getD k 0) x y), .int (Int32.ofNat (l.getD k 0))), ?_, stk_push (stk_pop (stk_pop i1)) _, c4.symm.trans i2, c3, by simp; omega⟩
      dsimp only
      rw [B_Lw_result_4]
      simp (disch := omega) only [xw_gF D, xw_gI D, xw_pI D, xw_gN D, xw_pIl D, ii_m1, ii_s1, obs, wF_1, wF_2, wA_1, wA_2, wR_1, wR_2, Nat.reduceEqDiff, Nat.reduceAdd, Nat.reduceMul, if_true, if_false, ite_true, ite_false, ii_la, ii_al, ii_lm, ii_ml, ii_add, ii_mul, ii_1, ii_le, ii_lt, ii_c1, ii_c2, ii_c3, ii_c4, ii_c5, ii_n1, ii_nn, kC0_v, kC1_v, kC2_v, kC3_v, kC0_x, kC1_x, kC2_x, not_true_eq_false, not_false_eq_true, ne_eq, h1, h5, t1, t2, t3, List.length_cons, c_W_join d, wA_wR]
      rw [if_neg (by omega), if_neg (by omega), if_pos (by omega), if_neg (by omega)])
  dsimp only at e i1 i2 i3
  rw [List.drop_length] at i2 i3
  have hs : st.length = 1 := by unfold hgt at i3; simpa using i3
  refine ⟨f, (vW D rfl).trans ((B_Lw_result_0 _ _ _).trans ?_)⟩
  have e0 : xS b L s = xS b L (wR s 22 (s.2 22)) := by rw [wR_s]
  rw [e0]
  refine e.trans ?_
  rw [B_Lw_result_4]
  simp (disch := omega) only [xw_gF D, xw_gI D, xw_pI D, xw_gN D, xw_pIl D, ii_m1, ii_s1, obs, wF_1, wF_2, wA_1, wA_2, wR_1, wR_2, Nat.reduceEqDiff, Nat.reduceAdd, Nat.reduceMul, if_true, if_false, ite_true, ite_false, ii_la, ii_al, ii_lm, ii_ml, ii_add, ii_mul, ii_1, ii_le, ii_lt, ii_c1, ii_c2, ii_c3, ii_c4, ii_c5, ii_n1, ii_nn, kC0_v, kC1_v, kC2_v, kC3_v, kC0_x, kC1_x, kC2_x, not_true_eq_false, not_false_eq_true, ne_eq, h1]
  rw [if_pos (by omega), B_Lw_result_101, ← i2]
  obtain ⟨x, rfl⟩ : ∃ x, st = [x] := by
    rcases st with _ | ⟨x, _ | ⟨y, st⟩⟩
    · simp at hs
    · exact ⟨x, rfl⟩
    · simp at hs
  have : f 0 = x := stk_top i1
  have e1 : (Int32.ofNat [x].length - 1) = Int32.ofNat 0 := ii_s1 0
  rw [e1]
  simp (disch := omega) only [xw_gF D, xw_gI D, xw_pI D, xw_gN D, xw_pIl D, ii_m1, ii_s1, obs, wF_1, wF_2, wA_1, wA_2, wR_1, wR_2, Nat.reduceEqDiff, Nat.reduceAdd, Nat.reduceMul, if_true, if_false, ite_true, ite_false, ii_la, ii_al, ii_lm, ii_ml, ii_add, ii_mul, ii_1, ii_le, ii_lt, ii_c1, ii_c2, ii_c3, ii_c4, ii_c5, ii_n1, ii_nn, kC0_v, kC1_v, kC2_v, kC3_v, kC0_x, kC1_x, kC2_x, not_true_eq_false, not_false_eq_true, ne_eq, List.length_cons, List.length_nil, this]
  refine congrArg (fun z => some (Sum.inl (some (Value.int z)), xS b L (wR s 22 f))) ?_
  exact clI_x x
theorem c_W_askPlace (d : Nat) {b : pS} {L : xA} {s : rT} (D : Dj L) (x y z : Int32) : vcall (d + 1) m_Lw_askPlace [.ref (aW L), .int x, .int y, .int z] (xS b L s) = some (.inl none, xS b L (wA (wA (wA s 23 0 x) 23 4 y) 23 2 z)) := by
  refine (vW D rfl).trans ((B_Lw_askPlace_0 _ _ _ _ _ _).trans ?_)
  simp only [xw_gF D, xw_pIl D, obs]
theorem c_W_askPerson (d : Nat) {b : pS} {L : xA} {s : rT} (D : Dj L) (x y z : Int32) : vcall (d + 1) m_Lw_askPerson [.ref (aW L), .int x, .int y, .int z] (xS b L s) = some (.inl none, xS b L (wA (wA (wA s 23 5 x) 23 1 y) 23 3 z)) := by
  refine (vW D rfl).trans ((B_Lw_askPerson_0 _ _ _ _ _ _).trans ?_)
  simp only [xw_gF D, xw_pIl D, obs]
theorem c_W_askTime (d : Nat) {b : pS} {L : xA} {s : rT} (D : Dj L) (x y : Int32) : vcall (d + 1) m_Lw_askTime [.ref (aW L), .int x, .int y] (xS b L s) = some (.inl none, xS b L (wA (wA s 23 6 x) 23 7 y)) := by
  refine (vW D rfl).trans ((B_Lw_askTime_0 _ _ _ _ _).trans ?_)
  simp only [xw_gF D, xw_pIl D, obs]
/-- all eight facts told, then the mark -/
theorem c_W_all (d : Nat) {b : pS} {L : xA} {s : rT} {l : List Nat} (D : Dj L) (hl : xLaw s l) (a0 a1 a2 a3 a4 a5 a6 a7 : Int32) : ∃ s', Kf [] [22, 23] s s' ∧ vcall (d + 2) m_Lw_result [.ref (aW L)] (xS b L (wA (wA (wA (wA (wA (wA (wA (wA s 23 0 a0) 23 4 a4) 23 2 a2) 23 5 a5) 23 1 a1) 23 3 a3) 23 6 a6) 23 7 a7)) = some (.inl (some (.int (mkv l a0 a1 a2 a3 a4 a5 a6 a7))), xS b L s') := by
  have hk : Kf [] [22, 23] s (wA (wA (wA (wA (wA (wA (wA (wA s 23 0 a0) 23 4 a4) 23 2 a2) 23 5 a5) 23 1 a1) 23 3 a3) 23 6 a6) 23 7 a7) := ((((((((Kf.rf _ _ s).wA (by decide) _ _).wA (by decide) _ _).wA (by decide) _ _).wA (by decide) _ _).wA (by decide) _ _).wA (by decide) _ _).wA (by decide) _ _).wA (by decide) _ _
  obtain ⟨f, hf⟩ := c_W_result d (b := b) D (hk.xlaw hl)
  refine ⟨_, hk.wR (a := 22) (by decide) f, hf.trans ?_⟩
  unfold mkv
  rw [evS_congr (fb := fun i => [a0, a1, a2, a3, a4, a5, a6, a7].getD i 0)]
  intro i hi
  have : i = 0 ∨ i = 1 ∨ i = 2 ∨ i = 3 ∨ i = 4 ∨ i = 5 ∨ i = 6 ∨ i = 7 := by omega
  rcases this with rfl | rfl | rfl | rfl | rfl | rfl | rfl | rfl <;> rfl
theorem SN.z {L : xA} {a z : Nat} (H : SN L a z) : z < 2 := by obtain ⟨_, ⟨-, rfl⟩ | ⟨-, rfl⟩⟩ := H <;> decide
theorem c_S_markOn (d : Nat) {b : pS} {L : xA} {s : rT} {a z : Nat} {l : List Nat} (H : SN L a z) (hl : xLaw s l) (p t : Nat) (hp : p < 6) (ht : t < 8) (st ot : Int32) : ∃ s', Kf [] [22, 23] s s' ∧ vcall (d + 3) m_Sc_markOn [.ref a, .ref (aW L), .int (Int32.ofNat p), .int (Int32.ofNat t), .int st, .int ot] (xS b L s) = some (.inl (some (.int (mkv l (s.2 z t) (s.2 12 p) st (s.2 z (20 + p)) (Int32.ofNat t) (Int32.ofNat p) ot (s.2 z 75)))), xS b L s') := by
  have hz0 := H.z; have hz1 : (z = 23) = False := eq_false (by omega); have hz2 : (12 = z) = False := eq_false (by omega); have hz3 : (13 = z) = False := eq_false (by omega); have hz4 : (z = 22) = False := eq_false (by omega); have hz5 : (21 = z) = False := eq_false (by omega)
  obtain ⟨s', k, e⟩ := c_W_all d (b := b) H.1 hl (s.2 z t) (s.2 12 p) st (s.2 z (20 + p)) (Int32.ofNat t) (Int32.ofNat p) ot (s.2 z 75)
  refine ⟨s', k, (vS H rfl).trans ((B_Sc_markOn_0 _ _ _ _ _ _ _ _).trans ?_)⟩
  simp (disch := omega) only [sn_gF H, sn_gI H, sn_pI H, sn_pF H, xu_gF H.1, xu_gI H.1, pl_ix, ii_m1, ii_s1, obs, wF_1, wF_2, wA_1, wA_2, wR_1, wR_2, Nat.reduceEqDiff, Nat.reduceAdd, Nat.reduceMul, if_true, if_false, ite_true, ite_false, ii_la, ii_al, ii_lm, ii_ml, ii_add, ii_mul, ii_1, ii_le, ii_lt, ii_c1, ii_c2, ii_c3, ii_c4, ii_c5, ii_n1, ii_nn, kC0_v, kC1_v, kC2_v, kC3_v, kC0_x, kC1_x, kC2_x, not_true_eq_false, not_false_eq_true, ne_eq, hz1, hz2, hz3, hz4, hz5, c_W_askPlace (d + 1) H.1, c_W_askPerson (d + 1) H.1, c_W_askTime (d + 1) H.1, Nat.zero_add, e]
def fMk (l : List Nat) (dk v : Nat → Int32) (p t : Nat) : Int32 := mkv l (v t) (dk p) 0 0 (Int32.ofNat t) (Int32.ofNat p) 0 0
theorem c_S_firstMark (d : Nat) {b : pS} {L : xA} {s : rT} {a z : Nat} {l : List Nat} (H : SN L a z) (hl : xLaw s l) (p t : Nat) (hp : p < 6) (ht : t < 8) : ∃ s', Kf [] [22, 23] s s' ∧ vcall (d + 3) m_Sc_firstMark [.ref a, .ref (aW L), .int (Int32.ofNat p), .int (Int32.ofNat t)] (xS b L s) = some (.inl (some (.int (fMk l (s.2 12) (s.2 z) p t))), xS b L s') := by
  have hz0 := H.z; have hz1 : (z = 23) = False := eq_false (by omega); have hz2 : (12 = z) = False := eq_false (by omega); have hz3 : (13 = z) = False := eq_false (by omega); have hz4 : (z = 22) = False := eq_false (by omega); have hz5 : (21 = z) = False := eq_false (by omega)
  obtain ⟨s', k, e⟩ := c_W_all d (b := b) H.1 hl (s.2 z t) (s.2 12 p) 0 0 (Int32.ofNat t) (Int32.ofNat p) 0 0
  refine ⟨s', k, (vS H rfl).trans ((B_Sc_firstMark_0 _ _ _ _ _ _).trans ?_)⟩
  simp (disch := omega) only [sn_gF H, sn_gI H, sn_pI H, sn_pF H, xu_gF H.1, xu_gI H.1, pl_ix, ii_m1, ii_s1, obs, wF_1, wF_2, wA_1, wA_2, wR_1, wR_2, Nat.reduceEqDiff, Nat.reduceAdd, Nat.reduceMul, if_true, if_false, ite_true, ite_false, ii_la, ii_al, ii_lm, ii_ml, ii_add, ii_mul, ii_1, ii_le, ii_lt, ii_c1, ii_c2, ii_c3, ii_c4, ii_c5, ii_n1, ii_nn, kC0_v, kC1_v, kC2_v, kC3_v, kC0_x, kC1_x, kC2_x, not_true_eq_false, not_false_eq_true, ne_eq, hz1, hz2, hz3, hz4, hz5, c_W_askPlace (d + 1) H.1, c_W_askPerson (d + 1) H.1, c_W_askTime (d + 1) H.1, Nat.zero_add, e]
  rfl
theorem c_R_firstMark (d : Nat) (b : pS) (τ : rT) {l : List Nat} (hl : rLaw τ l) (p t : Nat) (hp : p < 6) (ht : t < 8) : ∃ τ', Kf [] [44, 45] τ τ' ∧ vcall (d + 5) m_R_firstMark [.ref 30, .int (Int32.ofNat p), .int (Int32.ofNat t)] (mS b τ) = some (.inl (some (.int (fMk l (τ.2 37) (τ.2 48) p t))), mS b τ') := by
  obtain ⟨τ', k, e⟩ := c_R_markOf d b τ l hl (τ.2 48 t) (τ.2 37 p) 0 0 (Int32.ofNat t) (Int32.ofNat p) 0 0
  refine ⟨τ', k, (vR rfl).trans ((B_R_firstMark_0 _ _ _ _ _).trans ?_)⟩
  simp (disch := omega) only [m_gF, m_gI, m_pI, m_gIl, m_pIl, ii_m1, ii_s1, m_pF, obs, wF_1, wF_2, wA_1, wA_2, wR_1, wR_2, Nat.reduceEqDiff, Nat.reduceAdd, Nat.reduceMul, if_true, if_false, ite_true, ite_false, ii_la, ii_al, ii_lm, ii_ml, ii_add, ii_mul, ii_1, ii_le, ii_lt, ii_c1, ii_c2, ii_c3, ii_c4, ii_c5, ii_n1, ii_nn, kC0_v, kC1_v, kC2_v, kC3_v, kC0_x, kC1_x, kC2_x, not_true_eq_false, not_false_eq_true, ne_eq, Nat.zero_add, e]
  rfl
theorem c_S_markToday (d : Nat) {b : pS} {L : xA} {s : rT} {a z m n : Nat} {l : List Nat} (H : SN L a z) (hl : xLaw s l) (C : Cn s m n) (K : Sok m n (s.2 z)) (p : Nat) (hp : p < n) : ∃ s', Kf [] [22, 23] s s' ∧ vcall (d + 4) m_Sc_markToday [.ref a, .ref (aW L), .int (Int32.ofNat p)] (xS b L s) = some (.inl (some (.int (mkB l n (s.2 12) (s.2 z) p))), xS b L s') := by
  have C' := C
  obtain ⟨hm, h8, hn, h6⟩ := C
  rcases K p hp with h | ⟨t, ht, h⟩
  · refine ⟨s, Kf.rf _ _ s, (vS H rfl).trans ((B_Sc_markToday_0 _ _ _ _ _).trans ?_)⟩
    simp (disch := omega) only [sn_gF H, sn_gI H, sn_pI H, sn_pF H, xu_gF H.1, xu_gI H.1, pl_ix, ii_m1, ii_s1, obs, wF_1, wF_2, wA_1, wA_2, wR_1, wR_2, Nat.reduceEqDiff, Nat.reduceAdd, Nat.reduceMul, if_true, if_false, ite_true, ite_false, ii_la, ii_al, ii_lm, ii_ml, ii_add, ii_mul, ii_1, ii_le, ii_lt, ii_c1, ii_c2, ii_c3, ii_c4, ii_c5, ii_n1, ii_nn, kC0_v, kC1_v, kC2_v, kC3_v, kC0_x, kC1_x, kC2_x, not_true_eq_false, not_false_eq_true, ne_eq, h, c_S_sits (d + 2) H]
    unfold mkB
    rw [if_pos h]
  · have hne : ¬ s.2 z (8 + p) = -1 := by rw [h]; simp [ii_n1 (a := t) (by omega)]
    obtain ⟨s', k, e⟩ := c_S_markOn d (b := b) H hl p t (by omega) (by omega) (s.2 z (14 + p)) (onesI (sSits n (s.2 z)) - 1)
    refine ⟨s', k, (vS H rfl).trans ((B_Sc_markToday_0 _ _ _ _ _).trans ?_)⟩
    simp (disch := omega) only [sn_gF H, sn_gI H, sn_pI H, sn_pF H, xu_gF H.1, xu_gI H.1, pl_ix, ii_m1, ii_s1, obs, wF_1, wF_2, wA_1, wA_2, wR_1, wR_2, Nat.reduceEqDiff, Nat.reduceAdd, Nat.reduceMul, if_true, if_false, ite_true, ite_false, ii_la, ii_al, ii_lm, ii_ml, ii_add, ii_mul, ii_1, ii_le, ii_lt, ii_c1, ii_c2, ii_c3, ii_c4, ii_c5, ii_n1, ii_nn, kC0_v, kC1_v, kC2_v, kC3_v, kC0_x, kC1_x, kC2_x, not_true_eq_false, not_false_eq_true, ne_eq, hne, c_S_sits (d + 2) H, c_S_whoSits (d + 1) H C', c_J_bitCount (d + 2) _ n h6]
    rw [if_pos (by decide), h, e, mkB_t (by omega) h]
    rfl
theorem c_S_letSit (d : Nat) {b : pS} {L : xA} {s : rT} {a z m n : Nat} (H : SN L a z) (C : Cn s m n) (p t : Nat) (hp : p < 6) : vcall (d + 2) m_Sc_letSit [.ref a, .int (Int32.ofNat p), .int (Int32.ofNat t)] (xS b L s) = some (.inl (some (.int (bSit n t (s.2 z)))), xS b L (wR s z (sSit n p t (s.2 z)))) := by
  refine (vS H rfl).trans ((B_Sc_letSit_0 _ _ _ _ _).trans ?_)
  simp (disch := omega) only [sn_gF H, sn_gI H, sn_pI H, sn_pF H, xu_gF H.1, xu_gI H.1, pl_ix, ii_m1, ii_s1, obs, wF_1, wF_2, wA_1, wA_2, wR_1, wR_2, Nat.reduceEqDiff, Nat.reduceAdd, Nat.reduceMul, if_true, if_false, ite_true, ite_false, ii_la, ii_al, ii_lm, ii_ml, ii_add, ii_mul, ii_1, ii_le, ii_lt, ii_c1, ii_c2, ii_c3, ii_c4, ii_c5, ii_n1, ii_nn, kC0_v, kC1_v, kC2_v, kC3_v, kC0_x, kC1_x, kC2_x, not_true_eq_false, not_false_eq_true, ne_eq, c_S_whoIsOn d H C]
  unfold bSit sSit
  by_cases h : sOn n (s.2 z) (Int32.ofNat t) = -1
  · simp only [h, if_true, wA_def, wR_wR, wR_g]
  · simp only [h, if_false, wR_s]
theorem c_S_letRise (d : Nat) {b : pS} {L : xA} {s : rT} {a z : Nat} (H : SN L a z) (p : Nat) (hp : p < 6) : vcall (d + 2) m_Sc_letRise [.ref a, .int (Int32.ofNat p)] (xS b L s) = some (.inl (some (.int (bRise p (s.2 z)))), xS b L (wR s z (sRise p (s.2 z)))) := by
  refine (vS H rfl).trans ((B_Sc_letRise_0 _ _ _ _).trans ?_)
  simp (disch := omega) only [sn_gF H, sn_gI H, sn_pI H, sn_pF H, xu_gF H.1, xu_gI H.1, pl_ix, ii_m1, ii_s1, obs, wF_1, wF_2, wA_1, wA_2, wR_1, wR_2, Nat.reduceEqDiff, Nat.reduceAdd, Nat.reduceMul, if_true, if_false, ite_true, ite_false, ii_la, ii_al, ii_lm, ii_ml, ii_add, ii_mul, ii_1, ii_le, ii_lt, ii_c1, ii_c2, ii_c3, ii_c4, ii_c5, ii_n1, ii_nn, kC0_v, kC1_v, kC2_v, kC3_v, kC0_x, kC1_x, kC2_x, not_true_eq_false, not_false_eq_true, ne_eq, c_S_sits d H]
  unfold bRise sRise
  by_cases h : s.2 z (8 + p) = -1
  · simp only [h, if_true, not_true_eq_false, if_false, wR_s]
  · simp only [h, if_false, wA_def, wR_wR, wR_g]
    rw [if_pos (by decide)]
theorem c_S_giveMeal (d : Nat) {b : pS} {L : xA} {s : rT} {a z : Nat} (H : SN L a z) (p : Nat) (hp : p < 6) : vcall (d + 1) m_Sc_giveMeal [.ref a, .int (Int32.ofNat p)] (xS b L s) = some (.inl (some (.int (bFeed p (s.2 z)))), xS b L (wR s z (sFeed p (s.2 z)))) := by
  refine (vS H rfl).trans ((B_Sc_giveMeal_0 _ _ _ _).trans ?_)
  simp (disch := omega) only [sn_gF H, sn_gI H, sn_pI H, sn_pF H, xu_gF H.1, xu_gI H.1, pl_ix, ii_m1, ii_s1, obs, wF_1, wF_2, wA_1, wA_2, wR_1, wR_2, Nat.reduceEqDiff, Nat.reduceAdd, Nat.reduceMul, if_true, if_false, ite_true, ite_false, ii_la, ii_al, ii_lm, ii_ml, ii_add, ii_mul, ii_1, ii_le, ii_lt, ii_c1, ii_c2, ii_c3, ii_c4, ii_c5, ii_n1, ii_nn, kC0_v, kC1_v, kC2_v, kC3_v, kC0_x, kC1_x, kC2_x, not_true_eq_false, not_false_eq_true, ne_eq]
  unfold bFeed sFeed
  by_cases h : s.2 z (20 + p) = 0
  · simp only [h, if_true, wR_s]
  · by_cases h2 : s.2 z 74 = 0
    · simp only [h, h2, if_true, if_false, wR_s, not_true_eq_false]
    · simp (disch := omega) only [h, h2, if_true, if_false, not_false_eq_true, wA_def, wR_wR, wR_g, upd_n]
theorem c_S_drawCurtain (d : Nat) {b : pS} {L : xA} {s : rT} {a z : Nat} (H : SN L a z) (t : Nat) (ht : t < 8) (c : Int32) : vcall (d + 1) m_Sc_drawCurtain [.ref a, .int (Int32.ofNat t), .int c] (xS b L s) = some (.inl (some (.int (bCurt t c (s.2 z)))), xS b L (wR s z (sCurt t c (s.2 z)))) := by
  refine (vS H rfl).trans ((B_Sc_drawCurtain_0 _ _ _ _ _).trans ?_)
  simp (disch := omega) only [sn_gF H, sn_gI H, sn_pI H, sn_pF H, xu_gF H.1, xu_gI H.1, pl_ix, ii_m1, ii_s1, obs, wF_1, wF_2, wA_1, wA_2, wR_1, wR_2, Nat.reduceEqDiff, Nat.reduceAdd, Nat.reduceMul, if_true, if_false, ite_true, ite_false, ii_la, ii_al, ii_lm, ii_ml, ii_add, ii_mul, ii_1, ii_le, ii_lt, ii_c1, ii_c2, ii_c3, ii_c4, ii_c5, ii_n1, ii_nn, kC0_v, kC1_v, kC2_v, kC3_v, kC0_x, kC1_x, kC2_x, not_true_eq_false, not_false_eq_true, ne_eq]
  unfold bCurt sCurt
  by_cases h : s.2 z (0 + t) = c
  · simp only [h, if_true, not_true_eq_false, if_false, wR_s]
  · simp only [h, if_false, if_true, not_false_eq_true, wA_def]
theorem mnP_x (x : Int32) : (if x < 9999 then x else 9999) = mnP x := by
  unfold mnP
  by_cases h : x < 9999
  · rw [if_pos h, if_pos (Int32.le_of_lt h)]
  · rw [if_neg h]
    by_cases h2 : x ≤ 9999
    · rw [if_pos h2]; exact Int32.le_antisymm (Int32.not_lt.mp h) h2
    · rw [if_neg h2]
/-- hunger lies between 0 and 99 -/
def Hok (n : Nat) (v : Nat → Int32) : Prop := ∀ p, p < n → ∃ j, j < 100 ∧ v (20 + p) = Int32.ofNat j
theorem hgr_x {x : Int32} {j : Nat} (hj : j < 100) (e : x = Int32.ofNat j) : (if x + 1 < 99 then x + 1 else 99) = hgr x := by
  subst e
  unfold hgr
  simp (disch := omega) only [ii_m1, ii_s1, obs, wF_1, wF_2, wA_1, wA_2, wR_1, wR_2, Nat.reduceEqDiff, Nat.reduceAdd, Nat.reduceMul, if_true, if_false, ite_true, ite_false, ii_la, ii_al, ii_lm, ii_ml, ii_add, ii_mul, ii_1, ii_le, ii_lt, ii_c1, ii_c2, ii_c3, ii_c4, ii_c5, ii_n1, ii_nn, kC0_v, kC1_v, kC2_v, kC3_v, kC0_x, kC1_x, kC2_x, not_true_eq_false, not_false_eq_true, ne_eq]
  by_cases h : j = 99
  · rw [if_neg (by omega), if_pos h]
  · rw [if_neg h]
    by_cases h2 : j + 1 < 99
    · rw [if_pos h2]
    · rw [if_neg h2]; have : j + 1 = 99 := by omega
      rw [this]; rfl
theorem c_S_passDay (d : Nat) {b : pS} {L : xA} {s : rT} {a z m n : Nat} {l : List Nat} (H : SN L a z) (hl : xLaw s l) (C : Cn s m n) (K : Sok m n (s.2 z)) (Hg : Hok n (s.2 z)) : ∃ s', Kf [] [22, 23, z] s s' ∧ s'.2 z = sPass l n (s.2 12) (s.2 13) (s.2 z) ∧ vcall (d + 4) m_Sc_passDay [.ref a, .ref (aW L)] (xS b L s) = some (.inl none, xS b L s') := by
  have hz0 := H.z; have hz1 : (z = 23) = False := eq_false (by omega); have hz2 : (12 = z) = False := eq_false (by omega); have hz3 : (13 = z) = False := eq_false (by omega); have hz4 : (z = 22) = False := eq_false (by omega); have hz5 : (21 = z) = False := eq_false (by omega)
  have C' := C
  obtain ⟨hm, h8, hn, h6⟩ := C
  generalize hv : s.2 z = v at K Hg
  have hm12 : 12 ∉ [22, 23, z] := by simp; omega
  have hm13 : 13 ∉ [22, 23, z] := by simp; omega
  have hm21 : 21 ∉ [22, 23, z] := by simp; omega
  have hmz : z ∉ [22, 23] := by simp; omega
  obtain ⟨⟨s1, w1, w2⟩, e1, k1, i1⟩ := ex_loop (F := fun k (x : rT × Value × Value) => den (d + 3) m_Sc_passDay 12 [.ref a, .ref (aW L), .int (onesI (sSits n v) - 1), .int (Int32.ofNat k), x.2.1, x.2.2] [] (xS b L x.1)) (I := fun k x => Kf [] [22, 23, z] s x.1 ∧ x.1.2 z = cfS (mkB l n (s.2 12) v) (s.2 13) v k 0) n (s, mk0, mk0) ⟨Kf.rf _ _ s, by rw [cf_00, hv]⟩ (fun k x hk hx => by
    obtain ⟨s1, w1, w2⟩ := x
    obtain ⟨k1, i1⟩ := hx
    dsimp only at k1 i1 ⊢
    have hn1 := (k1.1 45 (by decide)).trans hn
    have e12 := k1.2 12 hm12
    rcases K k hk with h | ⟨t, ht, h⟩
    · refine ⟨(s1, w1, w2), ?_, k1, ?_⟩
      · rw [B_Sc_passDay_12]
        simp (disch := omega) only [sn_gF H, sn_gI H, sn_pI H, sn_pF H, xu_gF H.1, xu_gI H.1, pl_ix, ii_m1, ii_s1, obs, wF_1, wF_2, wA_1, wA_2, wR_1, wR_2, Nat.reduceEqDiff, Nat.reduceAdd, Nat.reduceMul, if_true, if_false, ite_true, ite_false, ii_la, ii_al, ii_lm, ii_ml, ii_add, ii_mul, ii_1, ii_le, ii_lt, ii_c1, ii_c2, ii_c3, ii_c4, ii_c5, ii_n1, ii_nn, kC0_v, kC1_v, kC2_v, kC3_v, kC0_x, kC1_x, kC2_x, not_true_eq_false, not_false_eq_true, ne_eq, hn1, c_S_sits (d + 2) H, i1, cf_8]
        rw [if_neg (by omega)]
        simp [h]
      · dsimp only
        rw [i1]
        exact cf_n1 (by omega) h
    · have hne : ¬ v (8 + k) = -1 := by rw [h]; simp [ii_n1 (a := t) (by omega)]
      obtain ⟨s2, k2, e2⟩ := c_S_markOn d (b := b) H (k1.xlaw hl (by decide) hm21) k t (by omega) (by omega) (v (14 + k)) (onesI (sSits n v) - 1)
      have ez := k2.2 z hmz
      rw [i1, cf_0 (by omega), cf_20 (by omega), cf_74 (by omega), if_neg (by omega), e12, ← mkB_t (by omega) h] at e2
      have hc := cf_m (μ := mkB l n (s.2 12) v) (fs := s.2 13) (k := k) (k2 := 0) (by omega) (by omega) (by omega) h
      refine ⟨(wR s2 z (cfS (mkB l n (s.2 12) v) (s.2 13) v (k + 1) 0), .int (mkB l n (s.2 12) v k), .int (Int32.ofNat (t * 6 + k))), ?_, (k1.tr (k2.up (by decide) (by simp_all))).wR (by simp) _, wR_g _ _ _⟩
      rw [B_Sc_passDay_12]
      simp (disch := omega) only [sn_gF H, sn_gI H, sn_pI H, sn_pF H, xu_gF H.1, xu_gI H.1, pl_ix, ii_m1, ii_s1, obs, wF_1, wF_2, wA_1, wA_2, wR_1, wR_2, Nat.reduceEqDiff, Nat.reduceAdd, Nat.reduceMul, if_true, if_false, ite_true, ite_false, ii_la, ii_al, ii_lm, ii_ml, ii_add, ii_mul, ii_1, ii_le, ii_lt, ii_c1, ii_c2, ii_c3, ii_c4, ii_c5, ii_n1, ii_nn, kC0_v, kC1_v, kC2_v, kC3_v, kC0_x, kC1_x, kC2_x, not_true_eq_false, not_false_eq_true, ne_eq, hn1, c_S_sits (d + 2) H, i1, cf_8, cf_14, Nat.lt_irrefl, Nat.not_lt_zero, false_and, h, e2, ez, c_S_cellOf (d + 2), cf_26, wA_def, wR_wR, wR_g, upd_n, mnP_x]
      rw [if_neg (by omega), if_neg (by decide), hc])
  dsimp only at e1 k1 i1
  have hn1 := (k1.1 45 (by decide)).trans hn
  have e13 := k1.2 13 hm13
  obtain ⟨⟨⟩, e2, -⟩ := ex_loop (F := fun k (_ : Unit) => den (d + 3) m_Sc_passDay 105 [.ref a, .ref (aW L), .int (onesI (sSits n v) - 1), .int (Int32.ofNat k), w1, w2] [] (xS b L (wR s1 z (cfS (mkB l n (s.2 12) v) (s.2 13) v n k)))) (I := fun _ _ => True) n () trivial (fun k _ hk _ => by
    refine ⟨(), ?_, trivial⟩
    obtain ⟨j, hj, ej⟩ := Hg k hk
    have eh := hgr_x hj ej
    rw [B_Sc_passDay_105]
    simp (disch := omega) only [sn_gF H, sn_gI H, sn_pI H, sn_pF H, xu_gF H.1, xu_gI H.1, pl_ix, ii_m1, ii_s1, obs, wF_1, wF_2, wA_1, wA_2, wR_1, wR_2, Nat.reduceEqDiff, Nat.reduceAdd, Nat.reduceMul, if_true, if_false, ite_true, ite_false, ii_la, ii_al, ii_lm, ii_ml, ii_add, ii_mul, ii_1, ii_le, ii_lt, ii_c1, ii_c2, ii_c3, ii_c4, ii_c5, ii_n1, ii_nn, kC0_v, kC1_v, kC2_v, kC3_v, kC0_x, kC1_x, kC2_x, not_true_eq_false, not_false_eq_true, ne_eq, hz2, hz3, hn1, wR_g, cf_20, Nat.lt_irrefl, wA_def, wR_wR, upd_s, eh, e13, c_S_letRise (d + 1) H]
    rw [if_neg (by omega)]
    by_cases h : v (8 + k) = -1
    · have e3 := cf_h (μ := mkB l n (s.2 12) v) (fs := s.2 13) (k1 := n) (k := k) (by omega) (Or.inl h)
      rw [e3]
      have e4 : sRise k (cfS (mkB l n (s.2 12) v) (s.2 13) v n (k + 1)) = cfS (mkB l n (s.2 12) v) (s.2 13) v n (k + 1) := by
        unfold sRise; rw [if_pos (by rw [cf_8 (by omega), if_neg (fun g => g.2.1 h)]; exact h)]
      rw [e4]
      split <;> rfl
    · by_cases hu : s.2 13 k < hgr (v (20 + k))
      · have e3 := cf_u (μ := mkB l n (s.2 12) v) (fs := s.2 13) (k1 := n) (k := k) (by omega) h hu
        rw [if_neg (Int32.not_le.mpr hu)]
        unfold sRise
        rw [upd_n _ _ (by omega), cf_8 (by omega), if_neg (c := k < k ∧ _) (by omega), if_neg h, e3]
      · rw [if_pos (Int32.not_lt.mp hu), cf_h (by omega) (Or.inr hu)])
  refine ⟨wR s1 z (sPass l n (s.2 12) (s.2 13) v), k1.wR (by simp) _, wR_g _ _ _, (vS H rfl).trans ((B_Sc_passDay_0 _ _ _ _).trans ?_)⟩
  simp (disch := omega) only [sn_gF H, sn_gI H, sn_pI H, sn_pF H, xu_gF H.1, xu_gI H.1, pl_ix, ii_m1, ii_s1, obs, wF_1, wF_2, wA_1, wA_2, wR_1, wR_2, Nat.reduceEqDiff, Nat.reduceAdd, Nat.reduceMul, if_true, if_false, ite_true, ite_false, ii_la, ii_al, ii_lm, ii_ml, ii_add, ii_mul, ii_1, ii_le, ii_lt, ii_c1, ii_c2, ii_c3, ii_c4, ii_c5, ii_n1, ii_nn, kC0_v, kC1_v, kC2_v, kC3_v, kC0_x, kC1_x, kC2_x, not_true_eq_false, not_false_eq_true, ne_eq, c_S_whoSits (d + 1) H C', hv, c_J_bitCount (d + 2) _ n h6]
  refine e1.trans ?_
  rw [B_Sc_passDay_12]
  simp (disch := omega) only [sn_gF H, sn_gI H, sn_pI H, sn_pF H, xu_gF H.1, xu_gI H.1, pl_ix, ii_m1, ii_s1, obs, wF_1, wF_2, wA_1, wA_2, wR_1, wR_2, Nat.reduceEqDiff, Nat.reduceAdd, Nat.reduceMul, if_true, if_false, ite_true, ite_false, ii_la, ii_al, ii_lm, ii_ml, ii_add, ii_mul, ii_1, ii_le, ii_lt, ii_c1, ii_c2, ii_c3, ii_c4, ii_c5, ii_n1, ii_nn, kC0_v, kC1_v, kC2_v, kC3_v, kC0_x, kC1_x, kC2_x, not_true_eq_false, not_false_eq_true, ne_eq, hn1]
  rw [if_pos (Nat.le_refl n)]
  have e3 : xS b L s1 = xS b L (wR s1 z (cfS (mkB l n (s.2 12) v) (s.2 13) v n 0)) := by rw [← i1, wR_s]
  rw [e3]
  refine e2.trans ?_
  rw [B_Sc_passDay_105]
  simp (disch := omega) only [sn_gF H, sn_gI H, sn_pI H, sn_pF H, xu_gF H.1, xu_gI H.1, pl_ix, ii_m1, ii_s1, obs, wF_1, wF_2, wA_1, wA_2, wR_1, wR_2, Nat.reduceEqDiff, Nat.reduceAdd, Nat.reduceMul, if_true, if_false, ite_true, ite_false, ii_la, ii_al, ii_lm, ii_ml, ii_add, ii_mul, ii_1, ii_le, ii_lt, ii_c1, ii_c2, ii_c3, ii_c4, ii_c5, ii_n1, ii_nn, kC0_v, kC1_v, kC2_v, kC3_v, kC0_x, kC1_x, kC2_x, not_true_eq_false, not_false_eq_true, ne_eq, hn1, wR_g, cf_74, wA_def, wR_wR]
  rw [if_pos (Nat.le_refl n)]
  rfl
