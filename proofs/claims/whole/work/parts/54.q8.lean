/-! CALLS that ask: food, goings -/
theorem bit_or (x : Int32) : x &&& 1 = 0 ∨ x &&& 1 = 1 := by
  have e : x &&& 1 = Int32.ofNat (x &&& 1).toBitVec.toNat := by
    apply Int32.toBitVec_inj.mp
    show _ = BitVec.ofNat 32 _
    rw [BitVec.ofNat_toNat, BitVec.setWidth_eq]
  have h : (x &&& 1).toBitVec.toNat ≤ 1 := by
    rw [Int32.toBitVec_and, BitVec.toNat_and]
    exact Nat.and_le_right
  generalize (x &&& 1).toBitVec.toNat = k at e h
  have : k = 0 ∨ k = 1 := by omega
  rcases this with rfl | rfl
  · exact Or.inl e
  · exact Or.inr e
def gvV (n : Nat) (v : Nat → Int32) (st bd : Int32) : Int32 := fo (fun p a => if (st >>> (Int32.ofNat p &&& 31)) &&& 1 = 1 then a + (if bd < v (20 + p) then bd else v (20 + p)) else a) n 0
theorem c_Y_given (d : Nat) {b : pS} {L : xA} {s : rT} {m n : Nat} (D : Dj L) (C : Cn s m n) (bd st : Int32) : vcall (d + 2) m_Y_givenWithin [.ref 0, .int bd, .int st] (xS b L s) = some (.inl (some (.int (gvV n (s.2 0) st bd))), xS b L s) := by
  obtain ⟨hm, h8, hn, h6⟩ := C
  refine (vY D rfl).trans ((B_Y_givenWithin_0 _ _ _ _ _).trans ?_)
  refine (fo_loop (F := fun j a => den (d + 1) m_Y_givenWithin 5 [.ref 0, .int bd, .int st, .int a, .int (Int32.ofNat j)] [] (xS b L s)) (f := fun p a => if (st >>> (Int32.ofNat p &&& 31)) &&& 1 = 1 then a + (if bd < s.2 0 (20 + p) then bd else s.2 0 (20 + p)) else a) n (fun j a hj => ?_) 0).trans ?_
  · rw [B_Y_givenWithin_5]
    simp (disch := omega) only [x0_gF D, sn_gF (SN_p D), sn_gI (SN_p D), xu_gF D, xu_gI D, xk_gF D, xk_gI D, x1_gF D, pl_ix, ii_m1, ii_s1, obs, wF_1, wF_2, wA_1, wA_2, wR_1, wR_2, Nat.reduceEqDiff, Nat.reduceAdd, Nat.reduceMul, if_true, if_false, ite_true, ite_false, ii_la, ii_al, ii_lm, ii_ml, ii_add, ii_mul, ii_1, ii_le, ii_lt, ii_c1, ii_c2, ii_c3, ii_c4, ii_c5, ii_n1, ii_nn, kC0_v, kC1_v, kC2_v, kC3_v, kC0_x, kC1_x, kC2_x, not_true_eq_false, not_false_eq_true, ne_eq, hn, c_Y_hasBit d]
    rw [if_neg (by omega)]
    by_cases g : (st >>> (Int32.ofNat j &&& 31)) &&& 1 = 1 <;> simp [g]
  · rw [B_Y_givenWithin_5]
    simp (disch := omega) only [x0_gF D, sn_gF (SN_p D), sn_gI (SN_p D), xu_gF D, xu_gI D, xk_gF D, xk_gI D, x1_gF D, pl_ix, ii_m1, ii_s1, obs, wF_1, wF_2, wA_1, wA_2, wR_1, wR_2, Nat.reduceEqDiff, Nat.reduceAdd, Nat.reduceMul, if_true, if_false, ite_true, ite_false, ii_la, ii_al, ii_lm, ii_ml, ii_add, ii_mul, ii_1, ii_le, ii_lt, ii_c1, ii_c2, ii_c3, ii_c4, ii_c5, ii_n1, ii_nn, kC0_v, kC1_v, kC2_v, kC3_v, kC0_x, kC1_x, kC2_x, not_true_eq_false, not_false_eq_true, ne_eq, hn]
    rw [if_pos (Nat.le_refl n)]; rfl
theorem c_R_given (d : Nat) (b : pS) (τ : rT) {m n : Nat} (C : rCn τ m n) (st bd : Int32) : vcall (d + 1) m_R_givenBy [.ref 30, .int st, .int bd] (mS b τ) = some (.inl (some (.int (gvV n (τ.2 48) st bd))), mS b τ) := by
  obtain ⟨hm, h8, hn, h6⟩ := C
  refine (vR rfl).trans ((B_R_givenBy_0 _ _ _ _ _).trans ?_)
  refine (fo_loop (F := fun j a => den d m_R_givenBy 5 [.ref 30, .int st, .int bd, .int a, .int (Int32.ofNat j)] [] (mS b τ)) (f := fun p a => if (st >>> (Int32.ofNat p &&& 31)) &&& 1 = 1 then a + (if bd < τ.2 48 (20 + p) then bd else τ.2 48 (20 + p)) else a) n (fun j a hj => ?_) 0).trans ?_
  · rw [B_R_givenBy_5]
    simp (disch := omega) only [m_gF, m_gI, m_pI, m_gIl, m_pIl, ii_m1, ii_s1, m_pF, obs, wF_1, wF_2, wA_1, wA_2, wR_1, wR_2, Nat.reduceEqDiff, Nat.reduceAdd, Nat.reduceMul, if_true, if_false, ite_true, ite_false, ii_la, ii_al, ii_lm, ii_ml, ii_add, ii_mul, ii_1, ii_le, ii_lt, ii_c1, ii_c2, ii_c3, ii_c4, ii_c5, ii_n1, ii_nn, kC0_v, kC1_v, kC2_v, kC3_v, kC0_x, kC1_x, kC2_x, not_true_eq_false, not_false_eq_true, ne_eq, hn]
    rw [if_neg (by omega)]
    have hmn : (if bd < τ.2 48 (20 + j) then bd else τ.2 48 (20 + j)) = if bd ≤ τ.2 48 (20 + j) then bd else τ.2 48 (20 + j) := by
      by_cases h : bd < τ.2 48 (20 + j)
      · rw [if_pos h, if_pos (Int32.le_of_lt h)]
      · rw [if_neg h]
        by_cases h2 : bd ≤ τ.2 48 (20 + j)
        · rw [if_pos h2]; exact Int32.le_antisymm (Int32.not_lt.mp h) h2
        · rw [if_neg h2]
    rw [hmn]
    rcases bit_or (st >>> (Int32.ofNat j &&& 31)) with g | g
    · rw [g, if_neg (show ¬ (0 : Int32) = 1 by decide), Int32.zero_mul, Int32.zero_mul, Int32.add_zero]
      split <;> rfl
    · rw [g, if_pos rfl, Int32.one_mul, Int32.one_mul]
      split <;> rfl
  · rw [B_R_givenBy_5]
    simp (disch := omega) only [m_gF, m_gI, m_pI, m_gIl, m_pIl, ii_m1, ii_s1, m_pF, obs, wF_1, wF_2, wA_1, wA_2, wR_1, wR_2, Nat.reduceEqDiff, Nat.reduceAdd, Nat.reduceMul, if_true, if_false, ite_true, ite_false, ii_la, ii_al, ii_lm, ii_ml, ii_add, ii_mul, ii_1, ii_le, ii_lt, ii_c1, ii_c2, ii_c3, ii_c4, ii_c5, ii_n1, ii_nn, kC0_v, kC1_v, kC2_v, kC3_v, kC0_x, kC1_x, kC2_x, not_true_eq_false, not_false_eq_true, ne_eq, hn]
    rw [if_pos (Nat.le_refl n)]; rfl
theorem gv_0 {n : Nat} {v : Nat → Int32} (Hg : Hok n v) (st : Int32) : gvV n v st (Int32.ofNat 0) = 0 := by
  refine fo_inv (I := fun _ a => a = 0) n 0 rfl (fun k a hk ha => ?_)
  subst ha
  obtain ⟨j, j1, j2⟩ := Hg k hk
  split
  · rw [j2]
    simp (disch := omega) only [ii_m1, ii_s1, obs, wF_1, wF_2, wA_1, wA_2, wR_1, wR_2, Nat.reduceEqDiff, Nat.reduceAdd, Nat.reduceMul, if_true, if_false, ite_true, ite_false, ii_la, ii_al, ii_lm, ii_ml, ii_add, ii_mul, ii_1, ii_le, ii_lt, ii_c1, ii_c2, ii_c3, ii_c4, ii_c5, ii_n1, ii_nn, kC0_v, kC1_v, kC2_v, kC3_v, kC0_x, kC1_x, kC2_x, not_true_eq_false, not_false_eq_true, ne_eq]
    by_cases h : 0 < j
    · rw [if_pos h]; rfl
    · rw [if_neg h, show j = 0 by omega]; rfl
  · rfl
/-- the greatest bound that the food goes to -/
def fdB (n : Nat) (v : Nat → Int32) (st x : Int32) : Nat → Nat
  | 0 => 0
  | j + 1 => if gvV n v st (Int32.ofNat (j + 1)) ≤ x then j + 1 else fdB n v st x j
theorem fdB_le (n : Nat) (v : Nat → Int32) (st x : Int32) (j : Nat) : fdB n v st x j ≤ j := by
  induction j with
  | zero => exact Nat.le_refl 0
  | succ j ih => unfold fdB; split; omega; omega
def fdV (n : Nat) (v : Nat → Int32) (p : Nat) (st x : Int32) : Int32 := if (st >>> (Int32.ofNat p &&& 31)) &&& 1 = 1 then (if Int32.ofNat (fdB n v st x 99) < v (20 + p) then Int32.ofNat (fdB n v st x 99) else v (20 + p)) else 0
theorem sh_n : ∀ n : Fin 7, ((1 : Int32) <<< (Int32.ofNat n.val &&& 31)) = Int32.ofNat (2 ^ n.val) ∧ 2 ^ n.val < 100 := by decide +kernel
theorem Y_food (d : Nat) {b : pS} {L : xA} {s : rT} {m n : Nat} (D : Dj L) (C : Cn s m n) (p : Nat) (hp : p < n) (st x : Int32) (h1 : (0 : Int32) ≤ st ∧ st ≤ (1 <<< (Int32.ofNat n &&& 31)) - 1) (h2 : (0 : Int32) ≤ x ∧ x ≤ 999) : vcall (d + 6) m_Y_food [.ref 0, .int (Int32.ofNat p), .int st, .int x] (xS b L s) = some (.inl (some (.int (fdV n (s.2 0) p st x))), xS b L s) := by
  have C' := C
  obtain ⟨hm, h8, hn, h6⟩ := C'
  refine (vY D rfl).trans ((B_Y_food_0 _ _ _ _ _ _).trans ?_)
  simp only [nP_ok (d + 3) D hn (show n ≤ 8 by omega) hp, kC0_v, x0_gF D, xu_gF D, obs, hn, nR_ok (d + 3) D h1, nR_ok (d + 3) D h2, c_Y_hasBit (d + 4), kC1_v]
  unfold fdV
  by_cases g : (st >>> (Int32.ofNat p &&& 31)) &&& 1 = 1
  · simp only [g, if_true, i10, eq_self, if_false, not_false_eq_true]
    have key : ∀ j, j < 100 → den (d + 5) m_Y_food 45 [.ref 0, .int (Int32.ofNat p), .int st, .int x, .int (Int32.ofNat j)] [] (xS b L s) = den (d + 5) m_Y_food 67 [.ref 0, .int (Int32.ofNat p), .int st, .int x, .int (Int32.ofNat (fdB n (s.2 0) st x j))] [] (xS b L s) := by
      intro j
      induction j with
      | zero =>
        intro _
        rw [B_Y_food_45, if_pos (by decide)]
        rfl
      | succ j ih =>
        intro hj
        rw [B_Y_food_45]
        simp (disch := omega) only [ii_m1, ii_s1, obs, wF_1, wF_2, wA_1, wA_2, wR_1, wR_2, Nat.reduceEqDiff, Nat.reduceAdd, Nat.reduceMul, if_true, if_false, ite_true, ite_false, ii_la, ii_al, ii_lm, ii_ml, ii_add, ii_mul, ii_1, ii_le, ii_lt, ii_c1, ii_c2, ii_c3, ii_c4, ii_c5, ii_n1, ii_nn, kC0_v, kC1_v, kC2_v, kC3_v, kC0_x, kC1_x, kC2_x, not_true_eq_false, not_false_eq_true, ne_eq, c_Y_given (d + 3) D C]
        rw [if_neg (by omega)]
        unfold fdB
        by_cases g2 : gvV n (s.2 0) st (Int32.ofNat (j + 1)) ≤ x
        · rw [if_pos g2, if_pos g2]
        · rw [if_neg g2, if_neg g2]; exact ih (by omega)
    refine (key 99 (by decide)).trans ?_
    rw [B_Y_food_67]
    simp (disch := omega) only [x0_gF D, sn_gF (SN_p D), sn_gI (SN_p D), xu_gF D, xu_gI D, xk_gF D, xk_gI D, x1_gF D, pl_ix, ii_m1, ii_s1, obs, wF_1, wF_2, wA_1, wA_2, wR_1, wR_2, Nat.reduceEqDiff, Nat.reduceAdd, Nat.reduceMul, if_true, if_false, ite_true, ite_false, ii_la, ii_al, ii_lm, ii_ml, ii_add, ii_mul, ii_1, ii_le, ii_lt, ii_c1, ii_c2, ii_c3, ii_c4, ii_c5, ii_n1, ii_nn, kC0_v, kC1_v, kC2_v, kC3_v, kC0_x, kC1_x, kC2_x, not_true_eq_false, not_false_eq_true, ne_eq]
  · simp only [g, if_false, not_true_eq_false]
theorem R_food (d : Nat) (b : pS) (τ : rT) {m n : Nat} (C : rCn τ m n) (Hg : Hok n (τ.2 48)) (p : Nat) (hp : p < n) (st x : Int32) (h1 : (0 : Int32) ≤ st ∧ st ≤ (1 <<< (Int32.ofNat n &&& 31)) - 1) (h2 : (0 : Int32) ≤ x ∧ x ≤ 999) : vcall (d + 6) m_R_food [.ref 30, .int (Int32.ofNat p), .int st, .int x] (mS b τ) = some (.inl (some (.int (fdV n (τ.2 48) p st x))), mS b (wF τ 0 0)) := by
  have C0 : rCn (wF τ 0 0) m n := C
  obtain ⟨hm, h8, hn, h6⟩ := C
  obtain ⟨s1, s2⟩ := sh_n ⟨n, by omega⟩
  dsimp only at s1 s2
  have h1' : 0 ≤ st ∧ st < (1 <<< (Int32.ofNat n &&& 31)) := by rw [s1] at h1 ⊢; rw [← rg_m (by omega)]; exact h1
  refine (vR rfl).trans ((B_R_food_0 _ _ _ _ _ _).trans ?_)
  simp only [m_pF, obs, iP_ok (d + 3) hn (show n ≤ 8 by omega) hp, kC1_v, i10, eq_self, if_false, m_gF, wF_1, Nat.reduceEqDiff, hn]
  rw [if_neg (Int32.not_lt.mpr h1'.1), if_neg (Int32.not_le.mpr h1'.2)]
  simp only [rw_ok (d + 4) _ h2, kC1_v, i10, eq_self, if_false, B_R_food_45, rm_ok (d + 4), not_false_eq_true, if_true]
  have key : ∀ j, j < 100 → den (d + 5) m_R_food 59 [.ref 30, .int (Int32.ofNat p), .int st, .int x, .int (Int32.ofNat j)] [] (mS b (wF τ 0 0)) = some (.inl (some (.int (if (st >>> (Int32.ofNat p &&& 31)) &&& 1 = 1 then (if Int32.ofNat (fdB n (τ.2 48) st x j) < τ.2 48 (20 + p) then Int32.ofNat (fdB n (τ.2 48) st x j) else τ.2 48 (20 + p)) else 0))), mS b (wF τ 0 0)) := by
    have fin : ∀ (y : Int32), ((if ¬ (st >>> (Int32.ofNat p &&& 31)) &&& 1 = 0 then ((gFr (mS b (wF τ 0 0)) 30 11 42).bind fun v3 => ((gI (mS b (wF τ 0 0)) v3 (20 + Int32.ofNat p)).bind fun v4 => (if y ≤ v4 then some (Sum.inl (some (Value.int y)), mS b (wF τ 0 0)) else ((gFr (mS b (wF τ 0 0)) 30 11 42).bind fun v5 => ((gI (mS b (wF τ 0 0)) v5 (20 + Int32.ofNat p)).bind fun v6 => some (Sum.inl (some (Value.int v6)), mS b (wF τ 0 0))))))) else some (Sum.inl (some (Value.int 0)), mS b (wF τ 0 0))) : pR) = some (.inl (some (.int (if (st >>> (Int32.ofNat p &&& 31)) &&& 1 = 1 then (if y < τ.2 48 (20 + p) then y else τ.2 48 (20 + p)) else 0))), mS b (wF τ 0 0)) := by
      intro y
      simp (disch := omega) only [m_gF, m_gI, m_pI, m_gIl, m_pIl, ii_m1, ii_s1, m_pF, obs, wF_1, wF_2, wA_1, wA_2, wR_1, wR_2, Nat.reduceEqDiff, Nat.reduceAdd, Nat.reduceMul, if_true, if_false, ite_true, ite_false, ii_la, ii_al, ii_lm, ii_ml, ii_add, ii_mul, ii_1, ii_le, ii_lt, ii_c1, ii_c2, ii_c3, ii_c4, ii_c5, ii_n1, ii_nn, kC0_v, kC1_v, kC2_v, kC3_v, kC0_x, kC1_x, kC2_x, not_true_eq_false, not_false_eq_true, ne_eq]
      rcases bit_or (st >>> (Int32.ofNat p &&& 31)) with g | g
      · rw [g, if_neg (by simp), if_neg (by decide)]
      · rw [g, if_pos (by decide), if_pos rfl]
        by_cases h : y < τ.2 48 (20 + p)
        · rw [if_pos (Int32.le_of_lt h), if_pos h]
        · rw [if_neg h]
          by_cases h2 : y ≤ τ.2 48 (20 + p)
          · rw [if_pos h2, Int32.le_antisymm h2 (Int32.not_lt.mp h)]
          · rw [if_neg h2]
    intro j
    induction j with
    | zero =>
      intro _
      rw [B_R_food_59, c_R_given (d + 4) b (wF τ 0 0) C0, kC1_v]
      have e0 : gvV n ((wF τ 0 0).2 48) st (Int32.ofNat 0) = 0 := gv_0 Hg st
      rw [e0, if_pos h2.1]
      exact fin _
    | succ j ih =>
      intro hj
      rw [B_R_food_59, c_R_given (d + 4) b (wF τ 0 0) C0, kC1_v]
      show (if gvV n (τ.2 48) st (Int32.ofNat (j + 1)) ≤ x then _ else _) = _
      unfold fdB
      by_cases g2 : gvV n (τ.2 48) st (Int32.ofNat (j + 1)) ≤ x
      · rw [if_pos g2, if_pos g2]
        exact fin _
      · rw [if_neg g2, if_neg g2, ii_m1]
        exact ih (by omega)
  exact key 99 (by decide)
theorem P_food {S : pS} {L : xA} {s τ : rT} {m n q : Nat} {l : List Nat} (I : Iv S L s τ m n q l) (hd : RD s τ) (p st x : Int32) : Pr m_L_food m_R_food [.int p, .int st, .int x] S := by
  have I' := I; obtain ⟨D, A, hx, hr, ho, ⟨C, Cr, ⟨q1, q2, q3⟩, hy, hdy, hdk, xl, rl, hb1, hb2⟩, ⟨⟨tk, k1, k2, k3⟩, tb, tf, tr⟩, ⟨e48, hsc⟩, rc⟩ := I'; have C' := C; have Cr' := Cr; obtain ⟨hm, h8, hn, h6⟩ := C'; obtain ⟨hm', -, hn', -⟩ := Cr'
  have hL := (cR (d := 199) (M := m_L_food) (as := [.ref 0, .int p, .int st, .int x, .ref 58]) (s := S)).trans (B_L_food_0 _ _ _ _ _ _ _)
  obtain ⟨s1, s2⟩ := sh_n ⟨n, by omega⟩
  dsimp only at s1 s2
  by_cases h0_ : 0 ≤ p ∧ p < Int32.ofNat n
  · obtain ⟨p, lp, rfl⟩ := ii_ex (by omega) h0_.1 h0_.2
    by_cases h1_ : (0 : Int32) ≤ st ∧ st ≤ (1 <<< (Int32.ofNat n &&& 31)) - 1
    · have h1' : 0 ≤ st ∧ st < (1 <<< (Int32.ofNat n &&& 31)) := by rw [s1] at h1_ ⊢; rw [← rg_m (by omega)]; exact h1_
      by_cases h2_ : (0 : Int32) ≤ x ∧ x ≤ 999
      · exact P_q I hd hL ⟨s, Kf.rf _ _ s, Y_food 193 D C p lp st x h1_ h2_⟩ (fun b => ⟨wF τ 0 0, e_T0 τ, rfl, by rw [e48]; exact R_food 194 b τ Cr (by rw [← e48]; exact hsc.2.1) p lp st x h1_ h2_⟩)
      · have ya : ∀ d, vcall (d + 4) m_Y_food [.ref 0, .int (Int32.ofNat p), .int st, .int x] (xS S L s) = xA0 S L s := fun d => by
          refine (vY D rfl).trans ((B_Y_food_0 _ _ _ _ _ _).trans ?_)
          simp only [nP_ok (d + 1) D hn (show n ≤ 8 by omega) lp, kC0_v, x0_gF D, xu_gF D, obs, hn, nR_ok (d + 1) D h1_]
          rw [nR_no (d + 1) D h2_]
          rfl
        have ra : ∀ d b, vcall (d + 3) m_R_food [.ref 30, .int (Int32.ofNat p), .int st, .int x] (mS b τ) = some (.inl (some (.int 0)), mS b (rN τ 2 1)) := fun d b => by
          refine (vR rfl).trans ((B_R_food_0 _ _ _ _ _ _).trans ?_)
          simp only [m_pF, obs, iP_ok d hn' (show n ≤ 8 by omega) lp, kC1_v, i10, eq_self, if_false, m_gF, wF_1, Nat.reduceEqDiff, hn']
          rw [if_neg (Int32.not_lt.mpr h1'.1), if_neg (Int32.not_le.mpr h1'.2)]
          simp only [rw_no (d + 1) _ h2_, kC1_v, i10, eq_self, if_true, B_R_food_45, rm_n1 (d + 1) (show (2 : Int32) ≠ 0 by decide), not_true_eq_false, if_false]
        exact P_a (k := 2) I hd hL (fun _ _ => rfl) (by decide) (ya 195) (ra 197)
    · have h1' : ¬ (0 ≤ st ∧ st < (1 <<< (Int32.ofNat n &&& 31))) := by rw [s1] at h1_ ⊢; rw [← rg_m (by omega)]; exact h1_
      have ya : ∀ d, vcall (d + 4) m_Y_food [.ref 0, .int (Int32.ofNat p), .int st, .int x] (xS S L s) = xA0 S L s := fun d => by
        refine (vY D rfl).trans ((B_Y_food_0 _ _ _ _ _ _).trans ?_)
        simp only [nP_ok (d + 1) D hn (show n ≤ 8 by omega) lp, kC0_v, x0_gF D, xu_gF D, obs, hn]
        rw [nR_no (d + 1) D h1_]
        rfl
      have ra : ∀ d b, vcall (d + 3) m_R_food [.ref 30, .int (Int32.ofNat p), .int st, .int x] (mS b τ) = some (.inl (some (.int 0)), mS b (rN τ 2 1)) := fun d b => by
        refine (vR rfl).trans ((B_R_food_0 _ _ _ _ _ _).trans ?_)
        simp only [m_pF, obs, iP_ok d hn' (show n ≤ 8 by omega) lp, kC1_v, i10, eq_self, if_false, m_gF, wF_1, Nat.reduceEqDiff, hn', B_R_food_45, rm_n1 (d + 1) (show (2 : Int32) ≠ 0 by decide), not_true_eq_false]
        by_cases g : st < 0
        · rw [if_pos g]
        · rw [if_neg g, if_pos (Int32.not_lt.mp (fun g2 => h1' ⟨Int32.not_lt.mp g, g2⟩))]
      exact P_a (k := 2) I hd hL (fun _ _ => rfl) (by decide) (ya 195) (ra 197)
  · have ya : ∀ d, vcall (d + 4) m_Y_food [.ref 0, .int p, .int st, .int x] (xS S L s) = xE0 S L s := fun d => by
      refine (vY D rfl).trans ((B_Y_food_0 _ _ _ _ _ _).trans ?_)
      rw [nP_no (d + 1) D (by rw [hn]; exact h0_)]
      rfl
    have ra : ∀ d b, vcall (d + 3) m_R_food [.ref 30, .int p, .int st, .int x] (mS b τ) = some (.inl (some (.int 0)), mS b (rN τ 1 0)) := fun d b => by
      refine (vR rfl).trans ((B_R_food_0 _ _ _ _ _ _).trans ?_)
      simp only [m_pF, obs, iP_no d hn' (show n ≤ 8 by omega) h0_ (show (1 : Int32) ≠ 0 by decide), kC1_v, i10, eq_self, if_true]
    exact P_e (k := 1) I hd hL (fun _ _ => rfl) (by decide) (ya 195) (ra 197)
/-- ways to choose, uncut, step by step -/
def wS (k : Nat) : Nat → Nat
  | 0 => 1
  | i + 1 => wS k i * (k + (i + 1)) / (i + 1)
theorem wS_1 (k i : Nat) : wS k i ≤ wS k (i + 1) := by
  show wS k i ≤ wS k i * (k + (i + 1)) / (i + 1)
  rw [Nat.le_div_iff_mul_le (by omega)]
  exact Nat.mul_le_mul_left _ (by omega)
theorem wS_le (k : Nat) {i j : Nat} (h : i ≤ j) : wS k i ≤ wS k j := by
  induction j with
  | zero => rw [show i = 0 by omega]; exact Nat.le_refl _
  | succ j ih =>
    by_cases e : i = j + 1
    · rw [e]; exact Nat.le_refl _
    · exact Nat.le_trans (ih (by omega)) (wS_1 k j)
theorem wS_b {k i : Nat} (hk : k ≤ 80000) (hi : i ≤ 80000) (h : wS k i ≤ 1000000000) : wS k i * (k + (i + 1)) ≤ 170000000000000 ∧ wS k (i + 1) ≤ 170000000000000 := by
  have h1 : wS k i * (k + (i + 1)) ≤ 1000000000 * 170000 := Nat.mul_le_mul h (by omega)
  have h2 : wS k (i + 1) ≤ wS k i * (k + (i + 1)) := Nat.div_le_self _ _
  exact ⟨by omega, by omega⟩
def chN (a c : Nat) : Nat := min 1000000000 (wS (max a c) (min a c))
theorem jc : (1000000000 : Int64) = Int64.ofNat 1000000000 := rfl
theorem jj_le {a b : Nat} (ha : a < 9223372036854775808) (hb : b < 9223372036854775808) : (Int64.ofNat a ≤ Int64.ofNat b) = (a ≤ b) := by
  rw [Int64.le_iff_toInt_le, jj_ti ha, jj_ti hb]; exact propext Int.ofNat_le
theorem c_Y_choices (d : Nat) (s : pS) (a c : Nat) (ha : a ≤ 80000) (hc : c ≤ 80000) : call (d + 1) m_Y_choices [.int (Int32.ofNat (a + c)), .int (Int32.ofNat c)] s = some (.inl (some (.long (Int64.ofNat (chN a c)))), s) := by
  refine cR.trans ((B_Y_choices_0 _ _ _ _).trans ?_)
  have e1 : (if Int32.ofNat (a + c) - Int32.ofNat c < Int32.ofNat c then Int32.ofNat (a + c) - Int32.ofNat c else Int32.ofNat c) = Int32.ofNat (min a c) := by
    rw [ii_sub (by omega), Nat.add_sub_cancel]
    simp (disch := omega) only [ii_m1, ii_s1, obs, wF_1, wF_2, wA_1, wA_2, wR_1, wR_2, Nat.reduceEqDiff, Nat.reduceAdd, Nat.reduceMul, if_true, if_false, ite_true, ite_false, ii_la, ii_al, ii_lm, ii_ml, ii_add, ii_mul, ii_1, ii_le, ii_lt, ii_c1, ii_c2, ii_c3, ii_c4, ii_c5, ii_n1, ii_nn, kC0_v, kC1_v, kC2_v, kC3_v, kC0_x, kC1_x, kC2_x, not_true_eq_false, not_false_eq_true, ne_eq]
    by_cases h : a < c
    · rw [if_pos h, Nat.min_eq_left (by omega)]
    · rw [if_neg h, Nat.min_eq_right (by omega)]
  rw [e1]
  have e2 : Int32.ofNat (a + c) - Int32.ofNat (min a c) = Int32.ofNat (max a c) := by rw [ii_sub (by omega)]; congr 1; omega
  unfold chN
  have key : ∀ f i, i + f = min a c → wS (max a c) i ≤ 170000000000000 → den d m_Y_choices 13 [.int (Int32.ofNat (a + c)), .int (Int32.ofNat c), .int (Int32.ofNat (min a c)), .long (Int64.ofNat (wS (max a c) i)), mk0, .int (Int32.ofNat (i + 1))] [] s = some (.inl (some (.long (Int64.ofNat (min 1000000000 (wS (max a c) (min a c)))))), s) := by
    intro f
    induction f with
    | zero =>
      intro i hi hw
      rw [B_Y_choices_13]
      simp (disch := omega) only [ii_m1, ii_s1, obs, wF_1, wF_2, wA_1, wA_2, wR_1, wR_2, Nat.reduceEqDiff, Nat.reduceAdd, Nat.reduceMul, if_true, if_false, ite_true, ite_false, ii_la, ii_al, ii_lm, ii_ml, ii_add, ii_mul, ii_1, ii_le, ii_lt, ii_c1, ii_c2, ii_c3, ii_c4, ii_c5, ii_n1, ii_nn, kC0_v, kC1_v, kC2_v, kC3_v, kC0_x, kC1_x, kC2_x, not_true_eq_false, not_false_eq_true, ne_eq]
      rw [if_pos (by omega), show min a c = i by omega, jc]
      simp (disch := omega) only [jj_lt]
      by_cases h : wS (max a c) i < 1000000000
      · rw [if_pos h, Nat.min_eq_right (by omega)]
      · rw [if_neg h, Nat.min_eq_left (by omega)]
    | succ f ih =>
      intro i hi hw
      rw [B_Y_choices_13]
      simp (disch := omega) only [ii_m1, ii_s1, obs, wF_1, wF_2, wA_1, wA_2, wR_1, wR_2, Nat.reduceEqDiff, Nat.reduceAdd, Nat.reduceMul, if_true, if_false, ite_true, ite_false, ii_la, ii_al, ii_lm, ii_ml, ii_add, ii_mul, ii_1, ii_le, ii_lt, ii_c1, ii_c2, ii_c3, ii_c4, ii_c5, ii_n1, ii_nn, kC0_v, kC1_v, kC2_v, kC3_v, kC0_x, kC1_x, kC2_x, not_true_eq_false, not_false_eq_true, ne_eq]
      rw [if_neg (by omega)]
      have hge : (0 ≤ lg_cmp (Int64.ofNat (wS (max a c) i)) 1000000000) = (1000000000 ≤ wS (max a c) i) := by
        rw [propext (lg_cmp_ge _ _), jc, jj_le (by decide) (by omega)]
      simp only [hge]
      by_cases h : 1000000000 ≤ wS (max a c) i
      · rw [if_pos h, jc]
        simp (disch := omega) only [jj_lt]
        have := wS_le (max a c) (show i ≤ min a c by omega)
        rw [if_neg (by omega), Nat.min_eq_left (by omega)]
      · rw [if_neg h]
        obtain ⟨w1, w2⟩ := wS_b (k := max a c) (i := i) (by omega) (by omega) (by omega)
        rw [e2, ii_add, ij_o (by omega), ij_o (by omega), jj_mul, jj_div (by omega) (by omega)]
        have h0 : ¬ Int64.ofNat (i + 1) = 0 := by rw [show (0 : Int64) = Int64.ofNat 0 from rfl, jj_eq (by omega) (by decide)]; omega
        rw [if_neg h0]
        exact ih (i + 1) (by omega) w2
  exact key (min a c) 0 (by omega) (by show 1 ≤ _; decide)
theorem c_R_among (d : Nat) (s : pS) (f k : Nat) (hf : f ≤ 80000) (hk : k ≤ 80000) : call (d + 1) m_R_among [.int (Int32.ofNat f), .int (Int32.ofNat k)] s = some (.inl (some (.long (Int64.ofNat (min 1000000000 (wS k f))))), s) := by
  have fin : ∀ i v, v ≤ 170000000000000 → den d m_R_among 37 [.int (Int32.ofNat f), .int (Int32.ofNat k), .long (Int64.ofNat v), mk0, .int (Int32.ofNat i)] [] s = some (.inl (some (.long (Int64.ofNat (min 1000000000 v)))), s) := by
    intro i v hv
    have hge : (lg_cmp (Int64.ofNat v) 1000000000 ≤ 0) = (v ≤ 1000000000) := by
      rw [propext (lg_cmp_le _ _), jc, jj_le (by omega) (by decide)]
    rw [B_R_among_37]
    simp only [hge]
    by_cases h : v ≤ 1000000000
    · rw [if_pos h, Nat.min_eq_right h]
    · rw [if_neg h, Nat.min_eq_left (by omega)]; rfl
  have key : ∀ g i, i + g = f → wS k i ≤ 170000000000000 → den d m_R_among 5 [.int (Int32.ofNat f), .int (Int32.ofNat k), .long (Int64.ofNat (wS k i)), mk0, .int (Int32.ofNat (i + 1))] [] s = some (.inl (some (.long (Int64.ofNat (min 1000000000 (wS k f))))), s) := by
    intro g
    induction g with
    | zero =>
      intro i hi hw
      rw [B_R_among_5]
      simp (disch := omega) only [ii_m1, ii_s1, obs, wF_1, wF_2, wA_1, wA_2, wR_1, wR_2, Nat.reduceEqDiff, Nat.reduceAdd, Nat.reduceMul, if_true, if_false, ite_true, ite_false, ii_la, ii_al, ii_lm, ii_ml, ii_add, ii_mul, ii_1, ii_le, ii_lt, ii_c1, ii_c2, ii_c3, ii_c4, ii_c5, ii_n1, ii_nn, kC0_v, kC1_v, kC2_v, kC3_v, kC0_x, kC1_x, kC2_x, not_true_eq_false, not_false_eq_true, ne_eq]
      rw [if_pos (by omega), fin (i + 1) _ hw, show i = f by omega]
    | succ g ih =>
      intro i hi hw
      rw [B_R_among_5]
      simp (disch := omega) only [ii_m1, ii_s1, obs, wF_1, wF_2, wA_1, wA_2, wR_1, wR_2, Nat.reduceEqDiff, Nat.reduceAdd, Nat.reduceMul, if_true, if_false, ite_true, ite_false, ii_la, ii_al, ii_lm, ii_ml, ii_add, ii_mul, ii_1, ii_le, ii_lt, ii_c1, ii_c2, ii_c3, ii_c4, ii_c5, ii_n1, ii_nn, kC0_v, kC1_v, kC2_v, kC3_v, kC0_x, kC1_x, kC2_x, not_true_eq_false, not_false_eq_true, ne_eq]
      rw [if_neg (by omega)]
      have hgt : (0 < lg_cmp (Int64.ofNat (wS k i)) 1000000000) = (1000000000 < wS k i) := by
        rw [propext (lg_cmp_gt _ _), jc, jj_lt (by decide) (by omega)]
      simp only [hgt]
      by_cases h : 1000000000 < wS k i
      · rw [if_pos h, fin (i + 1) _ hw]
        have := wS_le k (show i ≤ f by omega)
        rw [Nat.min_eq_left (by omega), Nat.min_eq_left (by omega)]
      · rw [if_neg h]
        obtain ⟨w1, w2⟩ := wS_b (k := k) (i := i) hk (by omega) (by omega)
        rw [ij_o (by omega), ij_o (by omega), jj_mul, jj_div (by omega) (by omega)]
        have h0 : ¬ Int64.ofNat (i + 1) = 0 := by rw [show (0 : Int64) = Int64.ofNat 0 from rfl, jj_eq (by omega) (by decide)]; omega
        rw [if_neg h0]
        exact ih (i + 1) (by omega) w2
  refine cR.trans ((B_R_among_0 _ _ _ _).trans ?_)
  exact key f 0 (by omega) (by show 1 ≤ _; decide)
/-- how he sat: seat by seat -/
def gR (am mk : Nat → Nat) (w : Nat) : Nat → Nat → Nat → Nat → Int32
  | 0, _, len, wy => if w = 0 then Int32.ofNat wy else Int32.ofNat len
  | f + 1, t, len, wy => if am t = 0 then gR am mk w f (t + 1) len wy else if mk t = 0 ∨ ¬ am t % mk t = 0 then (if w = 0 then 0 else -1) else gR am mk w f (t + 1) (len + am t / mk t) (min 1000000000 (wy * chN len (am t / mk t)))
theorem ch_0 (a : Nat) : chN a 0 = 1 := by unfold chN; rw [Nat.min_eq_right (Nat.zero_le a)]; rfl
theorem ch_le (a c : Nat) : chN a c ≤ 1000000000 := Nat.min_le_left _ _
theorem c_Y_daysOn (d : Nat) {b : pS} {L : xA} {s : rT} {l : List Nat} (D : Dj L) (xl : xLaw s l) (p t a k : Nat) (hp : p < 6) (ht : t < 8) (ea : s.2 31 t = Int32.ofNat a) (la : a ≤ 9999) (ek : fMk l (s.2 12) (s.2 0) p t = Int32.ofNat k) (lk : k ≤ 99) : ∃ s', Kf [] [22, 23] s s' ∧ vcall (d + 4) m_Y_daysOn [.ref 0, .int (Int32.ofNat p), .int (Int32.ofNat t)] (xS b L s) = some (.inl (some (.int (if a = 0 then 0 else if k = 0 ∨ ¬ a % k = 0 then -1 else Int32.ofNat (a / k)))), xS b L s') := by
  have eA : vcall (d + 3) m_Bk_amountOn [.ref (aK L), .int (Int32.ofNat t)] (xS b L s) = some (.inl (some (.int (Int32.ofNat a))), xS b L s) := by
    refine (vK D rfl).trans ((B_Bk_amountOn_0 _ _ _ _).trans ?_)
    simp (disch := omega) only [xk_gF D, xk_gI D, obs, ea]
  by_cases h0 : a = 0
  · refine ⟨s, Kf.rf _ _ s, (vY D rfl).trans ((B_Y_daysOn_0 _ _ _ _ _).trans ?_)⟩
    simp (disch := omega) only [x0_gF D, sn_gF (SN_p D), sn_gI (SN_p D), xu_gF D, xu_gI D, xk_gF D, xk_gI D, x1_gF D, pl_ix, ii_m1, ii_s1, obs, wF_1, wF_2, wA_1, wA_2, wR_1, wR_2, Nat.reduceEqDiff, Nat.reduceAdd, Nat.reduceMul, if_true, if_false, ite_true, ite_false, ii_la, ii_al, ii_lm, ii_ml, ii_add, ii_mul, ii_1, ii_le, ii_lt, ii_c1, ii_c2, ii_c3, ii_c4, ii_c5, ii_n1, ii_nn, kC0_v, kC1_v, kC2_v, kC3_v, kC0_x, kC1_x, kC2_x, not_true_eq_false, not_false_eq_true, ne_eq, eA]
    rw [if_neg (fun g => g h0), if_pos h0]
  · obtain ⟨s', k1, e⟩ := c_S_firstMark d (b := b) (SN_p D) xl p t hp ht
    rw [ek] at e
    refine ⟨s', k1, (vY D rfl).trans ((B_Y_daysOn_0 _ _ _ _ _).trans ?_)⟩
    simp (disch := omega) only [x0_gF D, sn_gF (SN_p D), sn_gI (SN_p D), xu_gF D, xu_gI D, xk_gF D, xk_gI D, x1_gF D, pl_ix, ii_m1, ii_s1, obs, wF_1, wF_2, wA_1, wA_2, wR_1, wR_2, Nat.reduceEqDiff, Nat.reduceAdd, Nat.reduceMul, if_true, if_false, ite_true, ite_false, ii_la, ii_al, ii_lm, ii_ml, ii_add, ii_mul, ii_1, ii_le, ii_lt, ii_c1, ii_c2, ii_c3, ii_c4, ii_c5, ii_n1, ii_nn, kC0_v, kC1_v, kC2_v, kC3_v, kC0_x, kC1_x, kC2_x, not_true_eq_false, not_false_eq_true, ne_eq, eA, e]
    rw [if_pos h0, if_neg h0]
    by_cases h1 : k = 0
    · rw [if_pos (by omega), if_pos (Or.inl h1)]
    · rw [if_neg (by omega), if_neg h1, ii_mod (by omega) (by omega), ii_div (by omega) (by omega)]
      have hm : a % k < 100 := Nat.lt_of_lt_of_le (Nat.mod_lt a (by omega)) (by omega)
      simp (disch := omega) only [ii_m1, ii_s1, obs, wF_1, wF_2, wA_1, wA_2, wR_1, wR_2, Nat.reduceEqDiff, Nat.reduceAdd, Nat.reduceMul, if_true, if_false, ite_true, ite_false, ii_la, ii_al, ii_lm, ii_ml, ii_add, ii_mul, ii_1, ii_le, ii_lt, ii_c1, ii_c2, ii_c3, ii_c4, ii_c5, ii_n1, ii_nn, kC0_v, kC1_v, kC2_v, kC3_v, kC0_x, kC1_x, kC2_x, not_true_eq_false, not_false_eq_true, ne_eq]
      by_cases h2 : a % k = 0
      · rw [if_pos h2, if_neg h1, if_neg (fun g => g.elim h1 (fun g => g h2))]
      · rw [if_neg h2, if_pos (Or.inr h2)]
theorem Y_goings (d : Nat) {b : pS} {L : xA} {s : rT} {m n : Nat} {l : List Nat} (D : Dj L) (C : Cn s m n) (xl : xLaw s l) (p w : Nat) (hp : p < n) (hw : (0 : Int32) ≤ Int32.ofNat w ∧ Int32.ofNat w ≤ 1) (lw : w < 2) (am mk : Nat → Nat) (ha : ∀ t, t < m → am t ≤ 9999 ∧ s.2 31 t = Int32.ofNat (am t)) (hk : ∀ t, t < m → mk t ≤ 99 ∧ fMk l (s.2 12) (s.2 0) p t = Int32.ofNat (mk t)) : ∃ s', Ex0 s s' ∧ vcall (d + 6) m_Y_goings [.ref 0, .int (Int32.ofNat p), .int (Int32.ofNat w)] (xS b L s) = some (.inl (some (.int (gR am mk w m 0 0 1))), xS b L s') := by
  have C' := C
  obtain ⟨hm, h8, hn, h6⟩ := C'
  have key : ∀ f t len wy (x : rT) (v : Value), t + f = m → len ≤ 9999 * t → wy ≤ 1000000000 → Kf [] [22, 23] s x → ∃ s', Kf [] [22, 23] s s' ∧ den (d + 5) m_Y_goings 20 [.ref 0, .int (Int32.ofNat p), .int (Int32.ofNat w), .int (Int32.ofNat len), .long (Int64.ofNat wy), mk0, .int (Int32.ofNat t), v] [] (xS b L x) = some (.inl (some (.int (gR am mk w f t len wy))), xS b L s') := by
    intro f
    induction f with
    | zero =>
      intro t len wy x v ht hl hwy k1
      refine ⟨x, k1, ?_⟩
      have hm1 := (k1.1 44 (by decide)).trans hm
      rw [B_Y_goings_20]
      simp (disch := omega) only [x0_gF D, sn_gF (SN_p D), sn_gI (SN_p D), xu_gF D, xu_gI D, xk_gF D, xk_gI D, x1_gF D, pl_ix, ii_m1, ii_s1, obs, wF_1, wF_2, wA_1, wA_2, wR_1, wR_2, Nat.reduceEqDiff, Nat.reduceAdd, Nat.reduceMul, if_true, if_false, ite_true, ite_false, ii_la, ii_al, ii_lm, ii_ml, ii_add, ii_mul, ii_1, ii_le, ii_lt, ii_c1, ii_c2, ii_c3, ii_c4, ii_c5, ii_n1, ii_nn, kC0_v, kC1_v, kC2_v, kC3_v, kC0_x, kC1_x, kC2_x, not_true_eq_false, not_false_eq_true, ne_eq, hm1]
      rw [if_pos (by omega), Int64.toInt32_ofNat']
      unfold gR
      by_cases h : w = 0 <;> simp [h]
    | succ f ih =>
      intro t len wy x v ht hl hwy k1
      have hm1 := (k1.1 44 (by decide)).trans hm
      obtain ⟨a1, a2⟩ := ha t (by omega)
      obtain ⟨m1, m2⟩ := hk t (by omega)
      obtain ⟨s2, k2, e2⟩ := c_Y_daysOn (d + 1) (b := b) (s := x) D (k1.xlaw xl) p t (am t) (mk t) (by omega) (by omega) (by rw [k1.2 31 (by decide)]; exact a2) a1 (by rw [k1.2 12 (by decide), k1.2 0 (by decide)]; exact m2) m1
      have fin : ∀ its, its ≤ 9999 → ∀ (s2 : rT) (v : Value), (if ¬ Int32.ofNat its = -1 then kC2 (call (d + 5) m_Y_choices [.int (Int32.ofNat len + Int32.ofNat its), .int (Int32.ofNat its)] (xS b L s2)) (fun v6 s5 => den (d + 5) m_Y_goings 20 [.ref 0, .int (Int32.ofNat p), .int (Int32.ofNat w), .int (Int32.ofNat len + Int32.ofNat its), .long (if ((Int64.ofNat wy * v6) : Int64) < 1000000000 then (Int64.ofNat wy * v6) else 1000000000), mk0, .int (Int32.ofNat t + 1), .int (Int32.ofNat its)] [] s5) nX else (if ¬ Int32.ofNat w = 0 then some (Sum.inl (some (Value.int (-1))), xS b L s2) else some (Sum.inl (some (Value.int 0)), xS b L s2))) = den (d + 5) m_Y_goings 20 [.ref 0, .int (Int32.ofNat p), .int (Int32.ofNat w), .int (Int32.ofNat (len + its)), .long (Int64.ofNat (min 1000000000 (wy * chN len its))), mk0, .int (Int32.ofNat (t + 1)), .int (Int32.ofNat its)] [] (xS b L s2) := by
        intro its hi s2 v
        have hc := ch_le len its
        have hb : wy * chN len its ≤ 1000000000 * 1000000000 := Nat.mul_le_mul hwy hc
        rw [if_pos (by rw [ii_n1 (by omega)]; simp), ii_add, c_Y_choices (d + 4) _ len its (by omega) (by omega), kC2_v, jj_mul, jc, ii_1]
        congr 1
        simp (disch := omega) only [jj_lt]
        by_cases h : wy * chN len its < 1000000000
        · rw [if_pos h, Nat.min_eq_right (by omega)]
        · rw [if_neg h, Nat.min_eq_left (by omega)]
      unfold gR
      by_cases h0 : am t = 0
      · rw [if_pos h0] at e2 ⊢
        obtain ⟨s3, k3, e3⟩ := ih (t + 1) len wy s2 (.int (Int32.ofNat 0)) (by omega) (by omega) hwy (k1.tr k2)
        refine ⟨s3, k3, ?_⟩
        rw [B_Y_goings_20]
        simp (disch := omega) only [x0_gF D, xu_gF D, obs, hm1, ii_le]
        rw [if_neg (by omega), e2, kC1_v]
        refine (fin 0 (by decide) s2 (.int 0)).trans ?_
        rw [ch_0, Nat.mul_one, Nat.min_eq_right hwy]
        exact e3
      · rw [if_neg h0] at e2 ⊢
        by_cases h1 : mk t = 0 ∨ ¬ am t % mk t = 0
        · rw [if_pos h1] at e2 ⊢
          refine ⟨s2, k1.tr k2, ?_⟩
          rw [B_Y_goings_20]
          simp (disch := omega) only [x0_gF D, xu_gF D, obs, hm1, ii_le]
          rw [if_neg (by omega), e2, kC1_v, if_neg (by simp)]
          simp (disch := omega) only [ii_c5]
          by_cases h : w = 0 <;> simp [h]
        · rw [if_neg h1] at e2 ⊢
          have hd : am t / mk t ≤ 9999 := Nat.le_trans (Nat.div_le_self _ _) a1
          obtain ⟨s3, k3, e3⟩ := ih (t + 1) (len + am t / mk t) (min 1000000000 (wy * chN len (am t / mk t))) s2 (.int (Int32.ofNat (am t / mk t))) (by omega) (by omega) (Nat.min_le_left _ _) (k1.tr k2)
          refine ⟨s3, k3, ?_⟩
          rw [B_Y_goings_20]
          simp (disch := omega) only [x0_gF D, xu_gF D, obs, hm1, ii_le]
          rw [if_neg (by omega), e2, kC1_v]
          exact (fin _ hd s2 (.int 0)).trans e3
  obtain ⟨s', k1, e⟩ := key m 0 0 1 s mk0 (by omega) (by omega) (by decide) (Kf.rf _ _ s)
  refine ⟨s', Ex0.k k1, (vY D rfl).trans ((B_Y_goings_0 _ _ _ _ _).trans ?_)⟩
  simp only [nP_ok (d + 3) D hn (show n ≤ 8 by omega) hp, nR_ok (d + 3) D hw, kC0_v]
  exact e
theorem R_goings (d : Nat) (b : pS) (τ : rT) {m n : Nat} {l : List Nat} (C : rCn τ m n) (rl : rLaw τ l) (p w : Nat) (hp : p < n) (hw : (0 : Int32) ≤ Int32.ofNat w ∧ Int32.ofNat w ≤ 1) (lw : w < 2) (am mk : Nat → Nat) (ha : ∀ t, t < m → am t ≤ 9999 ∧ ((τ.2 53 t = -1 ∧ am t = 0) ∨ τ.2 53 t = Int32.ofNat (am t))) (hk : ∀ t, t < m → mk t ≤ 99 ∧ fMk l (τ.2 37) (τ.2 48) p t = Int32.ofNat (mk t)) : ∃ τ', Er0 τ τ' ∧ τ'.1 0 = 0 ∧ vcall (d + 6) m_R_goings [.ref 30, .int (Int32.ofNat p), .int (Int32.ofNat w)] (mS b τ) = some (.inl (some (.int (gR am mk w m 0 0 1))), mS b τ') := by
  obtain ⟨hm, h8, hn, h6⟩ := C
  have g22 : ∀ x : rT, x.1 22 = Int32.ofNat m → gFi (mS b x) 30 11 22 = some (Int32.ofNat m) := fun x h => by simp only [m_gF, h]
  have g47 : ∀ x : rT, gFr (mS b x) 30 11 47 = some 53 := fun x => by simp only [m_gF]
  have g53 : ∀ (x : rT) (t : Nat), t < 8 → gI (mS b x) 53 (Int32.ofNat t) = some (x.2 53 t) := fun x t ht => by simp (disch := omega) only [m_gI]
  have key : ∀ f t len wy (x : rT) (v v' : Value), t + f = m → len ≤ 9999 * t → wy ≤ 1000000000 → Kf [] [44, 45] (wF τ 0 0) x → ∃ s', Kf [] [44, 45] (wF τ 0 0) s' ∧ den (d + 5) m_R_goings 39 [.ref 30, .int (Int32.ofNat p), .int (Int32.ofNat w), .long (Int64.ofNat wy), mk0, .int (Int32.ofNat len), .int (Int32.ofNat t), v, v'] [] (mS b x) = some (.inl (some (.int (gR am mk w f t len wy))), mS b s') := by
    intro f
    induction f with
    | zero =>
      intro t len wy x v v' ht hl hwy k1
      refine ⟨x, k1, ?_⟩
      have hm1 : x.1 22 = Int32.ofNat m := (k1.1 22 (by decide)).trans hm
      rw [B_R_goings_39, g22 x hm1, obs, if_pos (by rw [ii_le (by omega) (by omega)]; omega), Int64.toInt32_ofNat']
      unfold gR
      simp (disch := omega) only [ii_c5]
      by_cases h : w = 0 <;> simp [h]
    | succ f ih =>
      intro t len wy x v v' ht hl hwy k1
      have hm1 : x.1 22 = Int32.ofNat m := (k1.1 22 (by decide)).trans hm
      obtain ⟨a1, a2⟩ := ha t (by omega)
      obtain ⟨m1, m2⟩ := hk t (by omega)
      have e53 : x.2 53 = τ.2 53 := k1.2 53 (by decide)
      unfold gR
      rcases a2 with ⟨a2, a3⟩ | a2
      · rw [if_pos a3]
        obtain ⟨s3, k3, e3⟩ := ih (t + 1) len wy x v v' (by omega) (by omega) hwy k1
        refine ⟨s3, k3, ?_⟩
        rw [B_R_goings_39, g22 x hm1, obs, if_neg (by rw [ii_le (by omega) (by omega)]; omega), g47 x, obs, g53 x t (by omega), obs, e53, if_pos a2, ii_1]
        exact e3
      · have hne : ¬ τ.2 53 t = -1 := by rw [a2, ii_n1 (by omega)]; simp
        by_cases h0 : am t = 0
        · rw [if_pos h0]
          obtain ⟨s3, k3, e3⟩ := ih (t + 1) len wy x v v' (by omega) (by omega) hwy k1
          refine ⟨s3, k3, ?_⟩
          rw [B_R_goings_39, g22 x hm1, obs, if_neg (by rw [ii_le (by omega) (by omega)]; omega), g47 x, obs, g53 x t (by omega), obs, e53, if_neg hne, obs, g53 x t (by omega), obs, e53, a2, if_neg (by rw [h0]; decide), ii_1]
          exact e3
        · rw [if_neg h0]
          obtain ⟨s2, k2, e2⟩ := c_R_firstMark d b x (k1.law ((e_T0 τ).law rl)) p t (by omega) (by omega)
          rw [show x.2 37 = τ.2 37 from k1.2 37 (by decide), show x.2 48 = τ.2 48 from k1.2 48 (by decide), m2] at e2
          have f53 : s2.2 53 = τ.2 53 := (k2.2 53 (by decide)).trans e53
          have hk0 : ¬ mk t = 0 → ¬ Int32.ofNat (mk t) = 0 := fun g => by simp (disch := omega) only [ii_c5]; exact g
          have hmod : am t % mk t ≤ 9999 := Nat.le_trans (Nat.mod_le _ _) a1
          by_cases h1 : mk t = 0
          · rw [if_pos (Or.inl h1)]
            refine ⟨s2, k1.tr k2, ?_⟩
            rw [B_R_goings_39, g22 x hm1, obs, if_neg (by rw [ii_le (by omega) (by omega)]; omega), g47 x, obs, g53 x t (by omega), obs, e53, if_neg hne, obs, g53 x t (by omega), obs, e53, a2, if_pos (by simp (disch := omega) only [ii_c5]; exact h0), e2, kC1_v, if_pos (by rw [h1]; rfl)]
            simp (disch := omega) only [ii_c5]
            by_cases h : w = 0 <;> simp [h]
          · have hk0 := hk0 h1
            by_cases h2 : am t % mk t = 0
            · rw [if_neg (fun g => g.elim h1 (fun g => g h2))]
              have hd : am t / mk t ≤ 9999 := Nat.le_trans (Nat.div_le_self _ _) a1
              have hc := ch_le len (am t / mk t)
              have hb : wy * chN len (am t / mk t) ≤ 1000000000 * 1000000000 := Nat.mul_le_mul hwy hc
              obtain ⟨s3, k3, e3⟩ := ih (t + 1) (len + am t / mk t) (min 1000000000 (wy * chN len (am t / mk t))) s2 (.int (Int32.ofNat (mk t))) (.int (Int32.ofNat (am t / mk t))) (by omega) (by omega) (Nat.min_le_left _ _) (k1.tr k2)
              refine ⟨s3, k3, ?_⟩
              have k146 : den (d + 5) m_R_goings 146 [.ref 30, .int (Int32.ofNat p), .int (Int32.ofNat w), .long (Int64.ofNat wy), mk0, .int (Int32.ofNat len), .int (Int32.ofNat t), .int (Int32.ofNat (mk t)), .int (Int32.ofNat (am t / mk t))] [.long (Int64.ofNat (chN len (am t / mk t))), .long (Int64.ofNat wy)] (mS b s2) = some (.inl (some (.int (gR am mk w f (t + 1) (len + am t / mk t) (min 1000000000 (wy * chN len (am t / mk t)))))), mS b s3) := by
                rw [B_R_goings_146, jj_mul]
                have hle : (lg_cmp (Int64.ofNat (wy * chN len (am t / mk t))) 1000000000 ≤ 0) = (wy * chN len (am t / mk t) ≤ 1000000000) := by
                  rw [propext (lg_cmp_le _ _), jc, jj_le (by omega) (by decide)]
                simp only [hle, ii_add, ii_1]
                by_cases h : wy * chN len (am t / mk t) ≤ 1000000000
                · rw [if_pos h]; rw [Nat.min_eq_right h] at e3 ⊢; exact e3
                · rw [if_neg h]; rw [Nat.min_eq_left (by omega)] at e3 ⊢; exact e3
              rw [B_R_goings_39, g22 x hm1, obs, if_neg (by rw [ii_le (by omega) (by omega)]; omega), g47 x, obs, g53 x t (by omega), obs, e53, if_neg hne, obs, g53 x t (by omega), obs, e53, a2, if_pos (by simp (disch := omega) only [ii_c5]; exact h0), e2, kC1_v, if_neg hk0, g47 s2, obs, g53 s2 t (by omega), obs, f53, a2, if_neg hk0, ii_mod (by omega) (by omega), if_pos (by rw [h2]; rfl), obs, g53 s2 t (by omega), obs, f53, a2, if_neg hk0, ii_div (by omega) (by omega)]
              simp (disch := omega) only [ii_le]
              by_cases h : len ≤ am t / mk t
              · rw [if_pos h, c_R_among (d + 4) _ len (am t / mk t) (by omega) (by omega), kC2_v]
                have : chN len (am t / mk t) = min 1000000000 (wS (am t / mk t) len) := by unfold chN; rw [Nat.min_eq_left h, Nat.max_eq_right h]
                rw [← this]; exact k146
              · rw [if_neg h, c_R_among (d + 4) _ (am t / mk t) len (by omega) (by omega), kC2_v]
                have : chN len (am t / mk t) = min 1000000000 (wS len (am t / mk t)) := by unfold chN; rw [Nat.min_eq_right (Nat.le_of_not_le h), Nat.max_eq_left (Nat.le_of_not_le h)]
                rw [← this]; exact k146
            · rw [if_pos (Or.inr h2)]
              refine ⟨s2, k1.tr k2, ?_⟩
              rw [B_R_goings_39, g22 x hm1, obs, if_neg (by rw [ii_le (by omega) (by omega)]; omega), g47 x, obs, g53 x t (by omega), obs, e53, if_neg hne, obs, g53 x t (by omega), obs, e53, a2, if_pos (by simp (disch := omega) only [ii_c5]; exact h0), e2, kC1_v, if_neg hk0, g47 s2, obs, g53 s2 t (by omega), obs, f53, a2, if_neg hk0, ii_mod (by omega) (by omega), if_neg (by simp (disch := omega) only [ii_c5]; exact h2)]
              simp (disch := omega) only [ii_c5]
              by_cases h : w = 0 <;> simp [h]
  obtain ⟨s', k1, e⟩ := key m 0 0 1 (wF τ 0 0) mk0 mk0 (by omega) (by omega) (by decide) (Kf.rf _ _ _)
  refine ⟨s', (e_T0 τ).tr (k1.up (by decide) (by decide)), k1.1 0 (by decide), (vR rfl).trans ((B_R_goings_0 _ _ _ _ _).trans ?_)⟩
  simp only [m_pF, obs, iP_ok (d + 3) hn (show n ≤ 8 by omega) hp, rw_ok (d + 4) _ hw, rm_ok (d + 4), kC1_v, i10, eq_self, if_false, not_false_eq_true, if_true]
  exact e
theorem P_goings {S : pS} {L : xA} {s τ : rT} {m n q : Nat} {l : List Nat} (I : Iv S L s τ m n q l) (hd : RD s τ) (p : Int32) (w : Int32) : Pr m_L_goings m_R_goings [.int p, .int w] S := by
  have I' := I; obtain ⟨D, A, hx, hr, ho, ⟨C, Cr, ⟨q1, q2, q3⟩, hy, hdy, hdk, xl, rl, hb1, hb2⟩, ⟨⟨tk, k1, k2, k3⟩, tb, tf, tr⟩, ⟨e48, hsc⟩, rc⟩ := I'; have C' := C; have Cr' := Cr; obtain ⟨hm, h8, hn, h6⟩ := C'; obtain ⟨hm', -, hn', -⟩ := Cr'
  have hL := (cR (d := 199) (M := m_L_goings) (as := [.ref 0, .int p, .int w, .ref 58]) (s := S)).trans (B_L_goings_0 _ _ _ _ _ _)
  by_cases h0_ : 0 ≤ p ∧ p < Int32.ofNat n
  · obtain ⟨p, lp, rfl⟩ := ii_ex (by omega) h0_.1 h0_.2
    by_cases h1_ : (0 : Int32) ≤ w ∧ w ≤ 1
    · obtain ⟨w, lw, rfl⟩ := ii_ex (n := 2) (by decide) (Int32.le_trans (show (0 : Int32) ≤ 0 by decide) h1_.1) (Int32.lt_of_le_of_lt h1_.2 (by decide))
      have hA : ∀ t, t < m → (s.2 31 t).toNatClampNeg ≤ 9999 ∧ s.2 31 t = Int32.ofNat (s.2 31 t).toNatClampNeg ∧ ((τ.2 53 t = -1 ∧ (s.2 31 t).toNatClampNeg = 0) ∨ τ.2 53 t = Int32.ofNat (s.2 31 t).toNatClampNeg) := fun t ht => by
        rcases hb2 t (by omega) with ⟨c1, c2, c3⟩ | ⟨j, c0, c1, c2, c3⟩
        · rw [c2]; exact ⟨by decide, by decide, Or.inl ⟨c1, by decide⟩⟩
        · rw [c2, ii_tn (by omega)]; exact ⟨c0, rfl, Or.inr c1⟩
      have hM : ∀ t, (fMk l (s.2 12) (s.2 0) p t).toNatClampNeg ≤ 99 ∧ fMk l (s.2 12) (s.2 0) p t = Int32.ofNat (fMk l (s.2 12) (s.2 0) p t).toNatClampNeg := fun t => by
        obtain ⟨j, j1, j2⟩ := mkv_j l (s.2 0 t) (s.2 12 p) 0 0 (Int32.ofNat t) (Int32.ofNat p) 0 0
        have j3 : fMk l (s.2 12) (s.2 0) p t = Int32.ofNat j := j2
        rw [j3, ii_tn (by omega)]; exact ⟨j1, rfl⟩
      exact P_q I hd hL (Y_goings 193 D C xl p w lp h1_ lw (fun t => (s.2 31 t).toNatClampNeg) (fun t => (fMk l (s.2 12) (s.2 0) p t).toNatClampNeg) (fun t ht => ⟨(hA t ht).1, (hA t ht).2.1⟩) (fun t _ => hM t)) (fun b => R_goings 194 b τ Cr rl p w lp h1_ lw _ _ (fun t ht => ⟨(hA t ht).1, (hA t ht).2.2⟩) (fun t _ => by rw [← fMk_c (hdk p lp).1, ← e48]; exact hM t))
    · have ya : ∀ d, vcall (d + 4) m_Y_goings [.ref 0, .int (Int32.ofNat p), .int w] (xS S L s) = xA0 S L s := fun d => by
        refine (vY D rfl).trans ((B_Y_goings_0 _ _ _ _ _).trans ?_)
        simp only [nP_ok (d + 1) D hn (show n ≤ 8 by omega) lp, kC0_v]
        rw [nR_no (d + 1) D h1_]
        rfl
      have ra : ∀ d b, vcall (d + 3) m_R_goings [.ref 30, .int (Int32.ofNat p), .int w] (mS b τ) = some (.inl (some (.int 0)), mS b (rN τ 2 1)) := fun d b => by
        refine (vR rfl).trans ((B_R_goings_0 _ _ _ _ _).trans ?_)
        simp only [m_pF, obs, iP_ok d hn' (show n ≤ 8 by omega) lp, rw_no (d + 1) _ h1_, rm_n1 (d + 1) (show (2 : Int32) ≠ 0 by decide), kC1_v, i10, eq_self, if_true, if_false, not_true_eq_false, not_false_eq_true]
      exact P_a (k := 2) I hd hL (fun _ _ => rfl) (by decide) (ya 195) (ra 197)
  · have ya : ∀ d, vcall (d + 4) m_Y_goings [.ref 0, .int p, .int w] (xS S L s) = xE0 S L s := fun d => by
      refine (vY D rfl).trans ((B_Y_goings_0 _ _ _ _ _).trans ?_)
      rw [nP_no (d + 1) D (by rw [hn]; exact h0_)]
      rfl
    have ra : ∀ d b, vcall (d + 3) m_R_goings [.ref 30, .int p, .int w] (mS b τ) = some (.inl (some (.int 0)), mS b (rN τ 1 0)) := fun d b => by
      refine (vR rfl).trans ((B_R_goings_0 _ _ _ _ _).trans ?_)
      simp only [m_pF, obs, iP_no d hn' (show n ≤ 8 by omega) h0_ (show (1 : Int32) ≠ 0 by decide), kC1_v, i10, eq_self, if_true, if_false, not_true_eq_false, not_false_eq_true]
    exact P_e (k := 1) I hd hL (fun _ _ => rfl) (by decide) (ya 195) (ra 197)
