/-! CALLS that only ask: how one of the program and one of the reference go together -/
def xA0 (b : pS) (L : xA) (s : rT) : pR := some (.inr (0, b.1), pEx (xS b L (wF s 13 (s.1 13 + 1))))
def xE0 (b : pS) (L : xA) (s : rT) : pR := some (.inr (1, b.1), pEx (xS b L (wF s 12 (s.1 12 + 1))))
section
variable {b : pS} {L : xA} {s : rT}
theorem c_Y_refA (d : Nat) (D : Dj L) : vcall (d + 1) m_Y_refuseArgument [.ref 0] (xS b L s) = xA0 b L s := by
  refine (vY D rfl).trans ((B_Y_refuseArgument_0 _ _ _).trans ?_)
  simp only [x0_gF D, x0_pF D, obs]
  rfl
theorem c_Y_refE (d : Nat) (D : Dj L) : vcall (d + 1) m_Y_refuseElement [.ref 0] (xS b L s) = xE0 b L s := by
  refine (vY D rfl).trans ((B_Y_refuseElement_0 _ _ _).trans ?_)
  simp only [x0_gF D, x0_pF D, obs]
  rfl
theorem nR_ok (d : Nat) (D : Dj L) {v lo hi : Int32} (h : lo ≤ v ∧ v ≤ hi) : vcall (d + 2) m_Y_needRange [.ref 0, .int v, .int lo, .int hi] (xS b L s) = some (.inl none, xS b L s) := by
  refine (vY D rfl).trans ((B_Y_needRange_0 _ _ _ _ _ _).trans ?_)
  rw [if_neg (Int32.not_lt.mpr h.1), if_pos h.2]
theorem nR_no (d : Nat) (D : Dj L) {v lo hi : Int32} (h : ¬ (lo ≤ v ∧ v ≤ hi)) : vcall (d + 2) m_Y_needRange [.ref 0, .int v, .int lo, .int hi] (xS b L s) = xA0 b L s := by
  refine (vY D rfl).trans ((B_Y_needRange_0 _ _ _ _ _ _).trans ?_)
  have e : den (d + 1) m_Y_needRange 10 [.ref 0, .int v, .int lo, .int hi] [] (xS b L s) = xA0 b L s := by rw [B_Y_needRange_10, c_Y_refA d D]; rfl
  by_cases h1 : v < lo
  · rw [if_pos h1, e]
  · rw [if_neg h1, if_neg (fun h2 => h ⟨Int32.not_lt.mp h1, h2⟩), e]
theorem nS_ok (d : Nat) (D : Dj L) {m t : Nat} (hm : s.1 44 = Int32.ofNat m) (h8 : m ≤ 8) (ht : t < m) : vcall (d + 2) m_Y_needSeat [.ref 0, .int (Int32.ofNat t)] (xS b L s) = some (.inl none, xS b L s) := by
  refine (vY D rfl).trans ((B_Y_needSeat_0 _ _ _ _).trans ?_)
  simp (disch := omega) only [x0_gF D, xu_gF D, hm, ii_m1, ii_s1, obs, wF_1, wF_2, wA_1, wA_2, wR_1, wR_2, Nat.reduceEqDiff, Nat.reduceAdd, Nat.reduceMul, if_true, if_false, ite_true, ite_false, ii_la, ii_al, ii_lm, ii_ml, ii_add, ii_mul, ii_1, ii_le, ii_lt, ii_c1, ii_c2, ii_c3, ii_c4, ii_c5, ii_n1, ii_nn, kC0_v, kC1_v, kC2_v, kC3_v, kC0_x, kC1_x, kC2_x, not_true_eq_false, not_false_eq_true, ne_eq]
  rw [if_neg (by omega : ¬ t < 0), if_pos ht]
theorem nS_no (d : Nat) (D : Dj L) {v : Int32} (h : ¬ (0 ≤ v ∧ v < s.1 44)) : vcall (d + 2) m_Y_needSeat [.ref 0, .int v] (xS b L s) = xE0 b L s := by
  refine (vY D rfl).trans ((B_Y_needSeat_0 _ _ _ _).trans ?_)
  have e : den (d + 1) m_Y_needSeat 15 [.ref 0, .int v] [] (xS b L s) = xE0 b L s := by rw [B_Y_needSeat_15, c_Y_refE d D]; rfl
  simp only [x0_gF D, xu_gF D, obs, e]
  by_cases h1 : v < 0
  · rw [if_pos h1]
  · rw [if_neg h1, if_neg (fun h2 => h ⟨Int32.not_lt.mp h1, h2⟩)]
theorem nP_ok (d : Nat) (D : Dj L) {m t : Nat} (hm : s.1 45 = Int32.ofNat m) (h8 : m ≤ 8) (ht : t < m) : vcall (d + 2) m_Y_needSitter [.ref 0, .int (Int32.ofNat t)] (xS b L s) = some (.inl none, xS b L s) := by
  refine (vY D rfl).trans ((B_Y_needSitter_0 _ _ _ _).trans ?_)
  simp (disch := omega) only [x0_gF D, xu_gF D, hm, ii_m1, ii_s1, obs, wF_1, wF_2, wA_1, wA_2, wR_1, wR_2, Nat.reduceEqDiff, Nat.reduceAdd, Nat.reduceMul, if_true, if_false, ite_true, ite_false, ii_la, ii_al, ii_lm, ii_ml, ii_add, ii_mul, ii_1, ii_le, ii_lt, ii_c1, ii_c2, ii_c3, ii_c4, ii_c5, ii_n1, ii_nn, kC0_v, kC1_v, kC2_v, kC3_v, kC0_x, kC1_x, kC2_x, not_true_eq_false, not_false_eq_true, ne_eq]
  rw [if_neg (by omega : ¬ t < 0), if_pos ht]
theorem nP_no (d : Nat) (D : Dj L) {v : Int32} (h : ¬ (0 ≤ v ∧ v < s.1 45)) : vcall (d + 2) m_Y_needSitter [.ref 0, .int v] (xS b L s) = xE0 b L s := by
  refine (vY D rfl).trans ((B_Y_needSitter_0 _ _ _ _).trans ?_)
  have e : den (d + 1) m_Y_needSitter 15 [.ref 0, .int v] [] (xS b L s) = xE0 b L s := by rw [B_Y_needSitter_15, c_Y_refE d D]; rfl
  simp only [x0_gF D, xu_gF D, obs, e]
  by_cases h1 : v < 0
  · rw [if_pos h1]
  · rw [if_neg h1, if_neg (fun h2 => h ⟨Int32.not_lt.mp h1, h2⟩)]
theorem nQ_ok (d : Nat) (D : Dj L) {m t : Nat} (hm : s.1 46 = Int32.ofNat m) (h8 : m ≤ 8) (ht : t < m) : vcall (d + 2) m_Y_needSitting [.ref 0, .int (Int32.ofNat t)] (xS b L s) = some (.inl none, xS b L s) := by
  refine (vY D rfl).trans ((B_Y_needSitting_0 _ _ _ _).trans ?_)
  simp (disch := omega) only [x0_gF D, xu_gF D, hm, ii_m1, ii_s1, obs, wF_1, wF_2, wA_1, wA_2, wR_1, wR_2, Nat.reduceEqDiff, Nat.reduceAdd, Nat.reduceMul, if_true, if_false, ite_true, ite_false, ii_la, ii_al, ii_lm, ii_ml, ii_add, ii_mul, ii_1, ii_le, ii_lt, ii_c1, ii_c2, ii_c3, ii_c4, ii_c5, ii_n1, ii_nn, kC0_v, kC1_v, kC2_v, kC3_v, kC0_x, kC1_x, kC2_x, not_true_eq_false, not_false_eq_true, ne_eq]
  rw [if_neg (by omega : ¬ t < 0), if_pos ht]
theorem nQ_no (d : Nat) (D : Dj L) {v : Int32} (h : ¬ (0 ≤ v ∧ v < s.1 46)) : vcall (d + 2) m_Y_needSitting [.ref 0, .int v] (xS b L s) = xE0 b L s := by
  refine (vY D rfl).trans ((B_Y_needSitting_0 _ _ _ _).trans ?_)
  have e : den (d + 1) m_Y_needSitting 15 [.ref 0, .int v] [] (xS b L s) = xE0 b L s := by rw [B_Y_needSitting_15, c_Y_refE d D]; rfl
  simp only [x0_gF D, xu_gF D, obs, e]
  by_cases h1 : v < 0
  · rw [if_pos h1]
  · rw [if_neg h1, if_neg (fun h2 => h ⟨Int32.not_lt.mp h1, h2⟩)]
end
/-- the reference when it has refused -/
def rN (τ : rT) (c : Int32) (k : Nat) : rT := wA (wF (wF τ 0 0) 0 c) 31 k (τ.2 31 k + 1)
section
variable {b : pS} {τ : rT}
theorem rg_m {m : Nat} (hm : m < 2147483648) (v : Int32) : (0 ≤ v ∧ v ≤ Int32.ofNat m - 1) = (0 ≤ v ∧ v < Int32.ofNat m) := by
  apply propext
  have z : (0 : Int32).toInt = 0 := by decide
  cases m with
  | zero =>
    have e : Int32.ofNat 0 - 1 = -1 := by decide
    have e1 : (-1 : Int32).toInt = -1 := by decide
    rw [e]
    constructor
    · rintro ⟨h0, h1⟩
      rw [Int32.le_iff_toInt_le] at h0 h1
      omega
    · rintro ⟨h0, h1⟩
      rw [Int32.le_iff_toInt_le] at h0
      rw [Int32.lt_iff_toInt_lt, ii_ti (by decide)] at h1
      omega
  | succ m =>
    rw [ii_s1, Int32.le_iff_toInt_le (x := v), Int32.lt_iff_toInt_lt, ii_ti (by omega), ii_ti (by omega)]
    constructor <;> rintro ⟨h0, h1⟩ <;> exact ⟨h0, by omega⟩
theorem rw_ok (d : Nat) (s : pS) {v lo hi : Int32} (h : lo ≤ v ∧ v ≤ hi) : call (d + 1) m_R_within [.int v, .int lo, .int hi] s = some (.inl (some (.int 1)), s) := by rw [c_R_within, if_pos h]
theorem rw_no (d : Nat) (s : pS) {v lo hi : Int32} (h : ¬ (lo ≤ v ∧ v ≤ hi)) : call (d + 1) m_R_within [.int v, .int lo, .int hi] s = some (.inl (some (.int 0)), s) := by rw [c_R_within, if_neg h]
theorem rm_ok (d : Nat) (c k : Int32) : vcall (d + 1) m_R_may [.ref 30, .int 1, .int c, .int k] (mS b (wF τ 0 0)) = some (.inl (some (.int 1)), mS b (wF τ 0 0)) := by
  refine (vR rfl).trans ((B_R_may_0 _ _ _ _ _ _).trans ?_)
  simp only [m_gF, obs, wF_1, if_true]
  rfl
theorem rm_n1 (d : Nat) {c : Int32} (hc : c ≠ 0) : vcall (d + 1) m_R_may [.ref 30, .int 0, .int c, .int 1] (mS b (wF τ 0 0)) = some (.inl (some (.int 0)), mS b (rN τ c 1)) :=
  (c_R_may d b (wF τ 0 0) False c 1 (by decide) rfl hc)
theorem rm_n0 (d : Nat) {c : Int32} (hc : c ≠ 0) : vcall (d + 1) m_R_may [.ref 30, .int 0, .int c, .int 0] (mS b (wF τ 0 0)) = some (.inl (some (.int 0)), mS b (rN τ c 0)) :=
  (c_R_may d b (wF τ 0 0) False c 0 (by decide) rfl hc)
theorem iS_ok (d : Nat) {m t : Nat} (hm : τ.1 22 = Int32.ofNat m) (h8 : m ≤ 8) (ht : t < m) (c : Int32) : vcall (d + 2) m_R_isSeat [.ref 30, .int (Int32.ofNat t), .int c] (mS b (wF τ 0 0)) = some (.inl (some (.int 1)), mS b (wF τ 0 0)) := by
  refine (vR rfl).trans ((B_R_isSeat_0 _ _ _ _ _).trans ?_)
  have h : (0 : Int32) ≤ Int32.ofNat t ∧ Int32.ofNat t ≤ Int32.ofNat m - 1 := by rw [rg_m (by omega)]; simp (disch := omega) only [ii_m1, ii_s1, obs, wF_1, wF_2, wA_1, wA_2, wR_1, wR_2, Nat.reduceEqDiff, Nat.reduceAdd, Nat.reduceMul, if_true, if_false, ite_true, ite_false, ii_la, ii_al, ii_lm, ii_ml, ii_add, ii_mul, ii_1, ii_le, ii_lt, ii_c1, ii_c2, ii_c3, ii_c4, ii_c5, ii_n1, ii_nn, kC0_v, kC1_v, kC2_v, kC3_v, kC0_x, kC1_x, kC2_x, not_true_eq_false, not_false_eq_true, ne_eq]; omega
  simp only [m_gF, obs, wF_1, Nat.reduceEqDiff, if_false, hm, rw_ok d _ h, kC1_v, rm_ok d]
  rfl
theorem iS_no (d : Nat) {m : Nat} (hm : τ.1 22 = Int32.ofNat m) (h8 : m ≤ 8) {v : Int32} (h : ¬ (0 ≤ v ∧ v < Int32.ofNat m)) {c : Int32} (hc : c ≠ 0) : vcall (d + 2) m_R_isSeat [.ref 30, .int v, .int c] (mS b (wF τ 0 0)) = some (.inl (some (.int 0)), mS b (rN τ c 0)) := by
  refine (vR rfl).trans ((B_R_isSeat_0 _ _ _ _ _).trans ?_)
  rw [← rg_m (by omega)] at h
  simp only [m_gF, obs, wF_1, Nat.reduceEqDiff, if_false, hm, rw_no d _ h, kC1_v, rm_n0 d hc]
  rfl
theorem iP_ok (d : Nat) {m t : Nat} (hm : τ.1 23 = Int32.ofNat m) (h8 : m ≤ 8) (ht : t < m) (c : Int32) : vcall (d + 2) m_R_isSitter [.ref 30, .int (Int32.ofNat t), .int c] (mS b (wF τ 0 0)) = some (.inl (some (.int 1)), mS b (wF τ 0 0)) := by
  refine (vR rfl).trans ((B_R_isSitter_0 _ _ _ _ _).trans ?_)
  have h : (0 : Int32) ≤ Int32.ofNat t ∧ Int32.ofNat t ≤ Int32.ofNat m - 1 := by rw [rg_m (by omega)]; simp (disch := omega) only [ii_m1, ii_s1, obs, wF_1, wF_2, wA_1, wA_2, wR_1, wR_2, Nat.reduceEqDiff, Nat.reduceAdd, Nat.reduceMul, if_true, if_false, ite_true, ite_false, ii_la, ii_al, ii_lm, ii_ml, ii_add, ii_mul, ii_1, ii_le, ii_lt, ii_c1, ii_c2, ii_c3, ii_c4, ii_c5, ii_n1, ii_nn, kC0_v, kC1_v, kC2_v, kC3_v, kC0_x, kC1_x, kC2_x, not_true_eq_false, not_false_eq_true, ne_eq]; omega
  simp only [m_gF, obs, wF_1, Nat.reduceEqDiff, if_false, hm, rw_ok d _ h, kC1_v, rm_ok d]
  rfl
theorem iP_no (d : Nat) {m : Nat} (hm : τ.1 23 = Int32.ofNat m) (h8 : m ≤ 8) {v : Int32} (h : ¬ (0 ≤ v ∧ v < Int32.ofNat m)) {c : Int32} (hc : c ≠ 0) : vcall (d + 2) m_R_isSitter [.ref 30, .int v, .int c] (mS b (wF τ 0 0)) = some (.inl (some (.int 0)), mS b (rN τ c 0)) := by
  refine (vR rfl).trans ((B_R_isSitter_0 _ _ _ _ _).trans ?_)
  rw [← rg_m (by omega)] at h
  simp only [m_gF, obs, wF_1, Nat.reduceEqDiff, if_false, hm, rw_no d _ h, kC1_v, rm_n0 d hc]
  rfl
end
/-- what was thrown last -/
def Th (S : pS) (k : Int32) : Prop := ∃ τ, S = mS S τ ∧ τ.1 0 = k
def Gd (S S' : pS) : Prop := Inv S' ∧ S.1 ≤ S'.1 ∧ S'.1 ≤ S.1 + 100 ∧ S'.2.1 ≤ S.2.1 + 2000 ∧ ∀ j, S'.1 ≤ j → S'.2.2 j = S.2.2 j
/-- a call through the law's own method, and the reference's -/
def Pr (ML MR : Nat) (as : List Value) (S : pS) : Prop := ∃ (k : Int32) (S1 : pS) (w : Int32) (S2 : pS), call 200 ML (.ref 0 :: (as ++ [.ref 58])) S = some (.inl (some (.int k)), S1) ∧ vcall 200 MR (.ref 30 :: as) S1 = some (.inl (some (.int w)), S2) ∧ Th S2 k ∧ (k = 0 → ∃ f, S2.2.2 58 = some (cL 1 f) ∧ f 0 = w.toInt64) ∧ Gd S S2 ∧ ∀ j, S2.1 ≤ j → S1.2.2 j = S.2.2 j
/-- a call of the program itself -/
def Pd (MY MR : Nat) (as : List Value) (S : pS) : Prop := ∃ (v : Int32) (S1 S2 : pS), vcall 200 MY (.ref 0 :: as) S = some (.inl (some (.int v)), S1) ∧ vcall 200 MR (.ref 30 :: as) S1 = some (.inl (some (.int v)), S2) ∧ Gd S S2 ∧ ∀ j, S2.1 ≤ j → S1.2.2 j = S.2.2 j
def Ex0 (s s' : rT) : Prop := Kf [23, 24, 25, 26, 32, 33] [1, 4, 5, 22, 23] s s'
def Er0 (τ τ' : rT) : Prop := Kf [0, 3, 4, 5, 6, 7, 17, 18, 19, 20, 21, 31, 36, 39, 40, 41, 52] [33, 34, 35, 36, 40, 41, 44, 45, 46, 47, 49, 51, 52, 54, 55, 56] τ τ'
theorem Ex0.x {s s' : rT} (h : Ex0 s s') : Ex s s' := Kf.up h (by decide) (by decide)
theorem Er0.r {s s' : rT} (h : Er0 s s') : Er s s' := Kf.up h (by decide) (by decide)
theorem Ot_lt {S : pS} {L : xA} (A : AB S L) {j : Nat} (h : S.1 ≤ j) : Ot L j := by
  obtain ⟨g0, g1, g2, g3, g4, g5⟩ := A
  refine ⟨by omega, ?_, ?_, ?_, ?_, ?_⟩ <;> omega
theorem Ot_58 {L : xA} (D : Dj L) : Ot L 58 := Ot_ref D (by decide) (by decide)
/-- the program has gone on to S1, its objects at the same places, nothing else changed -/
def Go (S S1 : pS) (L : xA) (s' : rT) : Prop := S1 = xS S1 L s' ∧ (∀ j, j < S.1 → Ot L j → S1.2.2 j = S.2.2 j) ∧ (∀ j, S1.1 ≤ j → S1.2.2 j = S.2.2 j) ∧ S.1 ≤ S1.1 ∧ S1.1 ≤ S.1 + 90 ∧ S1.2.1 ≤ S.2.1 + 1900
theorem Go.q {S : pS} {L : xA} {s : rT} (A : AB S L) (s' : rT) : Go S (xS S L s') L s' := ⟨(xS_xS S L s' s').symm, fun j _ o => xS_o o, fun j h => xS_o (Ot_lt A h), Nat.le_refl _, Nat.le_add_right _ _, Nat.le_add_right _ _⟩
theorem Go.x {S : pS} {L : xA} {s' : rT} (A : AB S L) : Go S (pEx (xS S L s')) L s' := ⟨congrArg pEx (xS_xS S L s' s').symm, fun j _ o => xS_o o, fun j h => xS_o (Ot_lt A (Nat.le_of_succ_le h)), Nat.le_succ _, by show S.1 + 1 ≤ _; omega, by show S.2.1 + 6 ≤ _; omega⟩
/-- then the reference goes on: all holds again -/
theorem Gd_of {S S1 : pS} {L : xA} {s s' τ τ' : rT} {m n q : Nat} {l : List Nat} (I : Iv S L s τ m n q l) (G : Go S S1 L s') (hs : Ex s s') (ht : Er τ τ') (hd : RD s' τ') (f : Nat → Int64) (hf : S1.2.2 58 = some (cL 1 f)) : Gd S (mS S1 τ') ∧ (∀ j, (mS S1 τ').1 ≤ j → S1.2.2 j = S.2.2 j) := by
  obtain ⟨g1, g2, g3, g4, g5, g6⟩ := G
  have I' := I
  obtain ⟨D, A, -⟩ := I'
  have hq : 59 ≤ S.1 := A.1
  refine ⟨⟨⟨L, s', τ', m, n, q, l, ?_, hd⟩, g4, ?_, ?_, fun j hj => ?_⟩, fun j hj => g3 j hj⟩
  · refine Iv_q I hs ht (xS_in g1 (fun j o => ?_)) (mS_mS S1 τ' τ').symm ⟨f, ?_⟩ g4 (fun j h1 h2 o => ?_)
    · by_cases h : j < 30 ∨ 58 ≤ j
      · exact mS_out h
      · exact absurd (Ot_ref D (by omega) (by omega)) o
    · rw [mS_out (by omega)]; exact hf
    · rw [mS_out (by omega)]; exact g2 j h2 o
  · show S1.1 ≤ _; omega
  · show S1.2.1 ≤ _; omega
  · have : S1.1 ≤ j := hj
    rw [mS_out (by omega)]; exact g3 j hj
theorem pL_58 {S : pS} {f : Nat → Int64} (h : S.2.2 58 = some (cL 1 f)) (x : Int64) : pL S 58 0 x = some (pSet S 58 (cL 1 (vp_updL f 0 x))) := by
  unfold pL
  rw [h]
  rfl
theorem Go.o {S S1 : pS} {L : xA} {s' : rT} (D : Dj L) (A : AB S L) (G : Go S S1 L s') (c : pC) : S1 = xS S1 L s' → (pSet S1 58 c = xS (pSet S1 58 c) L s') ∧ (∀ j, 59 ≤ j → j < S.1 → Ot L j → (pSet S1 58 c).2.2 j = S.2.2 j) ∧ (∀ j, (pSet S1 58 c).1 ≤ j → (pSet S1 58 c).2.2 j = S.2.2 j) := by
  intro e
  obtain ⟨g1, g2, g3, g4, g5, g6⟩ := G
  have hq : 59 ≤ S.1 := A.1
  refine ⟨xS_in e (fun j o => ?_), fun j h1 h2 o => ?_, fun j h => ?_⟩
  · show (if j = 58 then _ else _) = _
    by_cases h : j = 58
    · subst h; exact absurd (Ot_58 D) o
    · rw [if_neg h]
  · show (if j = 58 then _ else _) = _
    rw [if_neg (by omega)]; exact g2 j h2 o
  · have h : S1.1 ≤ j := h
    show (if j = 58 then _ else _) = _
    rw [if_neg (by omega)]; exact g3 j h
theorem P_v {ML MY MR : Nat} {as : List Value} {S S1 : pS} {L : xA} {s s' τ : rT} {m n q : Nat} {l : List Nat} {H : Nat → Nat → pS → pR} {v : Int32} (I : Iv S L s τ m n q l) (hd : RD s τ) (hL : call 200 ML (.ref 0 :: (as ++ [.ref 58])) S = kC1 (vcall 199 MY (.ref 0 :: as) S) (fun v s1 => (pL s1 58 0 (Int32.toInt64 v)).bind fun s6 => some (.inl (some (.int 0)), s6)) H) (G : Go S S1 L s') (hs : Ex0 s s') (hX : vcall 199 MY (.ref 0 :: as) S = some (.inl (some (.int v)), S1)) (hR : ∀ b, ∃ τ', Er0 τ τ' ∧ τ'.1 0 = 0 ∧ vcall 200 MR (.ref 30 :: as) (mS b τ) = some (.inl (some (.int v)), mS b τ')) : Pr ML MR as S := by
  have I' := I
  obtain ⟨D, A, hx, hm, ⟨f, hf⟩, -⟩ := I'
  have hq : 59 ≤ S.1 := A.1
  have hf1 : S1.2.2 58 = some (cL 1 f) := (G.2.1 58 (by omega) (Ot_58 D)).trans hf
  obtain ⟨o1, o2, o3⟩ := G.o D A (cL 1 (vp_updL f 0 v.toInt64)) G.1
  have hm1 : pSet S1 58 (cL 1 (vp_updL f 0 v.toInt64)) = mS (pSet S1 58 (cL 1 (vp_updL f 0 v.toInt64))) τ := mS_in hm (fun j h1 h2 => by
    show (if j = 58 then _ else _) = _
    rw [if_neg (by omega)]; exact G.2.1 j (by omega) (Ot_ref D h1 (by omega)))
  obtain ⟨τ', k1, k2, k3⟩ := hR (pSet S1 58 (cL 1 (vp_updL f 0 v.toInt64)))
  rw [← hm1] at k3
  have hG : Go S (pSet S1 58 (cL 1 (vp_updL f 0 v.toInt64))) L s' → True := fun _ => trivial
  have e58 : (pSet S1 58 (cL 1 (vp_updL f 0 v.toInt64))).2.2 58 = some (cL 1 (vp_updL f 0 v.toInt64)) := by
    show (if 58 = 58 then some (cL 1 (vp_updL f 0 v.toInt64)) else S1.2.2 58) = some (cL 1 (vp_updL f 0 v.toInt64))
    rw [if_pos rfl]
  refine ⟨0, _, v, _, ?_, k3, ⟨τ', (mS_mS _ τ' τ').symm, k2⟩, fun _ => ⟨vp_updL f 0 v.toInt64, ?_, ?_⟩, ⟨⟨L, s', τ', m, n, q, l, ?_, ?_⟩, G.2.2.2.1, ?_, ?_, fun j hj => ?_⟩, fun j hj => o3 j hj⟩
  · rw [hL, hX, kC1_v, pL_58 hf1, obs]
  · rw [mS_out (by omega)]; exact e58
  · unfold vp_updL; simp
  · refine Iv_q I hs.x k1.r (xS_in o1 (fun j o => ?_)) (mS_mS _ τ' τ').symm ⟨_, (mS_out (by omega)).trans e58⟩ G.2.2.2.1 (fun j h1 h2 o => ?_)
    · by_cases h : j < 30 ∨ 58 ≤ j
      · exact mS_out h
      · exact absurd (Ot_ref D (by omega) (by omega)) o
    · rw [mS_out (by omega)]; exact o2 j h1 h2 o
  · refine ⟨?_, ?_⟩
    · rw [hs.1 12 (by decide), k1.2 31 (by decide)]; exact hd.1
    · rw [hs.1 13 (by decide), k1.2 31 (by decide)]; exact hd.2
  · have := G.2.2.2.2.1; show S1.1 ≤ _; omega
  · have := G.2.2.2.2.2; show S1.2.1 ≤ _; omega
  · have h3 : S1.1 ≤ j := hj
    have h4 := G.2.2.2.1
    rw [mS_out (by omega)]; exact o3 j hj
theorem P_x {ML MY MR : Nat} {as : List Value} {S : pS} {L : xA} {s s' τ : rT} {m n q : Nat} {l : List Nat} {H : Nat → Nat → pS → pR} {c : Nat} {k : Int32} (I : Iv S L s τ m n q l) (hL : call 200 ML (.ref 0 :: (as ++ [.ref 58])) S = kC1 (vcall 199 MY (.ref 0 :: as) S) (fun v s1 => (pL s1 58 0 (Int32.toInt64 v)).bind fun s6 => some (.inl (some (.int 0)), s6)) H) (hH : ∀ i s, H c i s = some (.inl (some (.int k)), s)) (hk : k ≠ 0) (hs : Ex s s') (hX : vcall 199 MY (.ref 0 :: as) S = some (.inr (c, S.1), pEx (xS S L s'))) {τ' : rT} (ht : Er τ τ') (h0 : τ'.1 0 = k) (hd : RD s' τ') (hR : ∀ b, vcall 200 MR (.ref 30 :: as) (mS b τ) = some (.inl (some (.int 0)), mS b τ')) : Pr ML MR as S := by
  have I' := I
  obtain ⟨D, A, hx, hm, ⟨f, hf⟩, -⟩ := I'
  have hq : 59 ≤ S.1 := A.1
  have G : Go S (pEx (xS S L s')) L s' := Go.x A
  have hm1 : pEx (xS S L s') = mS (pEx (xS S L s')) τ := mS_in hm (fun j h1 h2 => G.2.1 j (by omega) (Ot_ref D h1 (by omega)))
  have k3 := hR (pEx (xS S L s'))
  rw [← hm1] at k3
  obtain ⟨g1, g2⟩ := Gd_of I G hs ht hd f ((G.2.1 58 (by omega) (Ot_58 D)).trans hf)
  refine ⟨k, _, 0, _, ?_, k3, ⟨τ', (mS_mS _ τ' τ').symm, h0⟩, fun h => absurd h hk, g1, g2⟩
  rw [hL, hX, kC1_x]
  exact hH _ _
theorem RD_a {s τ : rT} (hd : RD s τ) (c : Int32) : RD (wF s 13 (s.1 13 + 1)) (rN τ c 1) := by
  obtain ⟨h1, h2⟩ := hd
  constructor
  · show s.1 12 = upd (τ.2 31) 1 (τ.2 31 1 + 1) 0
    rw [upd_n _ _ (by decide)]; exact h1
  · show s.1 13 + 1 = upd (τ.2 31) 1 (τ.2 31 1 + 1) 1
    rw [upd_s, h2]
theorem RD_e {s τ : rT} (hd : RD s τ) (c : Int32) : RD (wF s 12 (s.1 12 + 1)) (rN τ c 0) := by
  obtain ⟨h1, h2⟩ := hd
  constructor
  · show s.1 12 + 1 = upd (τ.2 31) 0 (τ.2 31 0 + 1) 0
    rw [upd_s, h1]
  · show s.1 13 = upd (τ.2 31) 0 (τ.2 31 0 + 1) 1
    rw [upd_n _ _ (by decide)]; exact h2
theorem rN_r (τ : rT) (c : Int32) (k : Nat) : Er τ (rN τ c k) := ((((Kf.rf _ _ τ).wF (by decide) _).wF (by decide) _).wA (by decide) _ _)
theorem rN_0 (τ : rT) (c : Int32) (k : Nat) : (rN τ c k).1 0 = c := rfl
theorem P_a {ML MY MR : Nat} {as : List Value} {S : pS} {L : xA} {s τ : rT} {m n q : Nat} {l : List Nat} {H : Nat → Nat → pS → pR} {k : Int32} (I : Iv S L s τ m n q l) (hd : RD s τ) (hL : call 200 ML (.ref 0 :: (as ++ [.ref 58])) S = kC1 (vcall 199 MY (.ref 0 :: as) S) (fun v s1 => (pL s1 58 0 (Int32.toInt64 v)).bind fun s6 => some (.inl (some (.int 0)), s6)) H) (hH : ∀ i s, H 0 i s = some (.inl (some (.int k)), s)) (hk : k ≠ 0) (hX : vcall 199 MY (.ref 0 :: as) (xS S L s) = xA0 S L s) (hR : ∀ b, vcall 200 MR (.ref 30 :: as) (mS b τ) = some (.inl (some (.int 0)), mS b (rN τ k 1))) : Pr ML MR as S := by
  have hx := I.2.2.1
  rw [← hx] at hX
  exact P_x I hL hH hk ((Kf.rf _ _ s).wF (by decide) _) hX (rN_r τ k 1) (rN_0 τ k 1) (RD_a hd k) hR
theorem P_e {ML MY MR : Nat} {as : List Value} {S : pS} {L : xA} {s τ : rT} {m n q : Nat} {l : List Nat} {H : Nat → Nat → pS → pR} {k : Int32} (I : Iv S L s τ m n q l) (hd : RD s τ) (hL : call 200 ML (.ref 0 :: (as ++ [.ref 58])) S = kC1 (vcall 199 MY (.ref 0 :: as) S) (fun v s1 => (pL s1 58 0 (Int32.toInt64 v)).bind fun s6 => some (.inl (some (.int 0)), s6)) H) (hH : ∀ i s, H 1 i s = some (.inl (some (.int k)), s)) (hk : k ≠ 0) (hX : vcall 199 MY (.ref 0 :: as) (xS S L s) = xE0 S L s) (hR : ∀ b, vcall 200 MR (.ref 30 :: as) (mS b τ) = some (.inl (some (.int 0)), mS b (rN τ k 0))) : Pr ML MR as S := by
  have hx := I.2.2.1
  rw [← hx] at hX
  exact P_x I hL hH hk ((Kf.rf _ _ s).wF (by decide) _) hX (rN_r τ k 0) (rN_0 τ k 0) (RD_e hd k) hR
/-- the program's state but for what doesn't count -/
theorem P_q {ML MY MR : Nat} {as : List Value} {S : pS} {L : xA} {s τ : rT} {m n q : Nat} {l : List Nat} {H : Nat → Nat → pS → pR} {v : Int32} (I : Iv S L s τ m n q l) (hd : RD s τ) (hL : call 200 ML (.ref 0 :: (as ++ [.ref 58])) S = kC1 (vcall 199 MY (.ref 0 :: as) S) (fun v s1 => (pL s1 58 0 (Int32.toInt64 v)).bind fun s6 => some (.inl (some (.int 0)), s6)) H) (hX : ∃ s', Ex0 s s' ∧ vcall 199 MY (.ref 0 :: as) (xS S L s) = some (.inl (some (.int v)), xS S L s')) (hR : ∀ b, ∃ τ', Er0 τ τ' ∧ τ'.1 0 = 0 ∧ vcall 200 MR (.ref 30 :: as) (mS b τ) = some (.inl (some (.int v)), mS b τ')) : Pr ML MR as S := by
  obtain ⟨s', hs, hX⟩ := hX
  have hx := I.2.2.1
  rw [← hx] at hX
  exact P_v I hd hL (Go.q (s := s) I.2.1 s') hs hX hR
theorem P_d {MY MR : Nat} {as : List Value} {S S1 : pS} {L : xA} {s s' τ : rT} {m n q : Nat} {l : List Nat} {v : Int32} (I : Iv S L s τ m n q l) (hd : RD s τ) (G : Go S S1 L s') (hs : Ex0 s s') (hX : vcall 200 MY (.ref 0 :: as) S = some (.inl (some (.int v)), S1)) (hR : ∀ b, ∃ τ', Er0 τ τ' ∧ vcall 200 MR (.ref 30 :: as) (mS b τ) = some (.inl (some (.int v)), mS b τ')) : Pd MY MR as S := by
  have I' := I
  obtain ⟨D, A, hx, hm, ⟨f, hf⟩, -⟩ := I'
  have hq : 59 ≤ S.1 := A.1
  have hm1 : S1 = mS S1 τ := mS_in hm (fun j h1 h2 => G.2.1 j (by omega) (Ot_ref D h1 (by omega)))
  obtain ⟨τ', k1, k3⟩ := hR S1
  rw [← hm1] at k3
  obtain ⟨g1, g2⟩ := Gd_of I G hs.x k1.r ⟨by rw [hs.1 12 (by decide), k1.2 31 (by decide)]; exact hd.1, by rw [hs.1 13 (by decide), k1.2 31 (by decide)]; exact hd.2⟩ f ((G.2.1 58 (by omega) (Ot_58 D)).trans hf)
  exact ⟨v, S1, _, hX, k3, g1, g2⟩
theorem P_dq {MY MR : Nat} {as : List Value} {S : pS} {L : xA} {s τ : rT} {m n q : Nat} {l : List Nat} {v : Int32} (I : Iv S L s τ m n q l) (hd : RD s τ) (hX : ∃ s', Ex0 s s' ∧ vcall 200 MY (.ref 0 :: as) (xS S L s) = some (.inl (some (.int v)), xS S L s')) (hR : ∀ b, ∃ τ', Er0 τ τ' ∧ vcall 200 MR (.ref 30 :: as) (mS b τ) = some (.inl (some (.int v)), mS b τ')) : Pd MY MR as S := by
  obtain ⟨s', hs, hX⟩ := hX
  have hx := I.2.2.1
  rw [← hx] at hX
  exact P_d I hd (Go.q (s := s) I.2.1 s') hs hX hR
