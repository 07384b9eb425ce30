/-! CALLS that ask: season, span, stains -/
theorem Go.b {S b' : pS} {L : xA} {s' : rT} {k : Nat} (A : AB S L) (h : Bx S b' k) (hk : k ≤ 90) : Go S (xS b' L s') L s' := by
  obtain ⟨h1, h2, h3, h4⟩ := h
  refine ⟨(xS_xS b' L s' s').symm, fun j hj o => (xS_o o).trans (h3 j hj), fun j hj => ?_, ?_, ?_, ?_⟩
  · have hj' : b'.1 ≤ j := hj
    exact (xS_o (Ot_lt A (by omega))).trans (h4 j hj)
  · show S.1 ≤ b'.1; omega
  · show b'.1 ≤ _; omega
  · show b'.2.1 ≤ _; omega
section
variable (d : Nat) (s : pS) {x y : Int32}
theorem is_ok (h1 : (0 : Int32) ≤ x ∧ x ≤ 16) (h2 : (1 : Int32) ≤ y ∧ y ≤ 96) : call (d + 1) m_R_isSeason [.int x, .int y] s = some (.inl (some (.int 1)), s) := by
  refine cR.trans ((B_R_isSeason_0 _ _ _ _).trans ?_)
  rw [if_neg (Int32.not_lt.mpr h1.1), if_neg (Int32.not_lt.mpr h1.2), if_neg (Int32.not_lt.mpr h2.1), if_neg (Int32.not_lt.mpr h2.2)]
theorem is_n1 (h1 : ¬ ((0 : Int32) ≤ x ∧ x ≤ 16)) : call (d + 1) m_R_isSeason [.int x, .int y] s = some (.inl (some (.int 0)), s) := by
  refine cR.trans ((B_R_isSeason_0 _ _ _ _).trans ?_)
  by_cases h : x < 0
  · rw [if_pos h]
  · rw [if_neg h, if_pos (Int32.not_le.mp (fun h2 => h1 ⟨Int32.not_lt.mp h, h2⟩))]
theorem is_n2 (h1 : (0 : Int32) ≤ x ∧ x ≤ 16) (h2 : ¬ ((1 : Int32) ≤ y ∧ y ≤ 96)) : call (d + 1) m_R_isSeason [.int x, .int y] s = some (.inl (some (.int 0)), s) := by
  refine cR.trans ((B_R_isSeason_0 _ _ _ _).trans ?_)
  rw [if_neg (Int32.not_lt.mpr h1.1), if_neg (Int32.not_lt.mpr h1.2)]
  by_cases h : y < 1
  · rw [if_pos h]
  · rw [if_neg h, if_pos (Int32.not_le.mp (fun h3 => h2 ⟨Int32.not_lt.mp h, h3⟩))]
end
def ssV (m n : Nat) (v : Nat → Int32) (w : Nat) : Int32 := if w = 0 then sPlate m n v else if w = 1 then sSits n v else if w = 2 then v 74 else sUnseen m n v
theorem Y_season (d : Nat) {b : pS} {L : xA} {s : rT} {m n : Nat} {l : List Nat} (D : Dj L) (C : Cn s m n) (xl : xLaw s l) (K : scI 800 m n (s.2 0)) (o : Ot L b.1) (x : Int32) (q k w : Nat) (hq : (0 : Int32) ≤ Int32.ofNat q ∧ Int32.ofNat q ≤ 16) (lq : q < 17) (hk : (1 : Int32) ≤ Int32.ofNat k ∧ Int32.ofNat k ≤ 96) (lk : k < 97) (hw : (0 : Int32) ≤ Int32.ofNat w ∧ Int32.ofNat w ≤ 3) (lw : w < 4) : ∃ b' s', Bx b b' 1 ∧ Ex0 s s' ∧ vcall (d + 7) m_Y_season [.ref 0, .int x, .int (Int32.ofNat q), .int (Int32.ofNat k), .int (Int32.ofNat w)] (xS b L s) = some (.inl (some (.int (ssV m n (ssnK l m n (s.2 12) (s.2 13) q x (s.2 0) k).2 w))), xS b' L s') := by
  obtain ⟨b', s1, hb, k1, i, e⟩ := c_Y_playSeason d D C xl K o x q k (by omega) (by omega)
  have C1 := k1.xcn C
  refine ⟨b', s1, hb, Ex0.t k1, (vY D rfl).trans ((B_Y_season_0 _ _ _ _ _ _ _).trans ?_)⟩
  simp only [nR_ok (d + 4) D hq, nR_ok (d + 4) D hk, nR_ok (d + 4) D hw, kC0_v, e]
  have : w = 0 ∨ w = 1 ∨ w = 2 ∨ w = 3 := by omega
  rcases this with rfl | rfl | rfl | rfl
  all_goals simp (disch := omega) only [x0_gF D, sn_gF (SN_p D), sn_gI (SN_p D), xu_gF D, xu_gI D, xk_gF D, xk_gI D, x1_gF D, pl_ix, ii_m1, ii_s1, obs, wF_1, wF_2, wA_1, wA_2, wR_1, wR_2, Nat.reduceEqDiff, Nat.reduceAdd, Nat.reduceMul, if_true, if_false, ite_true, ite_false, ii_la, ii_al, ii_lm, ii_ml, ii_add, ii_mul, ii_1, ii_le, ii_lt, ii_c1, ii_c2, ii_c3, ii_c4, ii_c5, ii_n1, ii_nn, kC0_v, kC1_v, kC2_v, kC3_v, kC0_x, kC1_x, kC2_x, not_true_eq_false, not_false_eq_true, ne_eq, sn_gF (SN_q D), c_S_onPlate (d + 2) (SN_q D) C1, c_S_whoSits (d + 4) (SN_q D) C1, c_S_unseen (d + 1) (SN_q D) C1, i, ssV]
theorem R_season (d : Nat) (b : pS) (τ : rT) {m n : Nat} {l : List Nat} (C : rCn τ m n) (rl : rLaw τ l) (K : scI 800 m n (τ.2 48)) (x : Int32) (q k w : Nat) (hq : (0 : Int32) ≤ Int32.ofNat q ∧ Int32.ofNat q ≤ 16) (lq : q < 17) (hk : (1 : Int32) ≤ Int32.ofNat k ∧ Int32.ofNat k ≤ 96) (lk : k < 97) (hw : (0 : Int32) ≤ Int32.ofNat w ∧ Int32.ofNat w ≤ 3) (lw : w < 4) : ∃ τ', Er0 τ τ' ∧ τ'.1 0 = 0 ∧ vcall (d + 8) m_R_season [.ref 30, .int x, .int (Int32.ofNat q), .int (Int32.ofNat k), .int (Int32.ofNat w)] (mS b τ) = some (.inl (some (.int (ssV m n (ssnK l m n (τ.2 37) (τ.2 38) q x (τ.2 48) k).2 w))), mS b τ') := by
  obtain ⟨τ1, k1, i, e⟩ := c_R_seasonGoes d b (wF τ 0 0) (l := l) (m := m) (n := n) ((e_T0 τ).law rl) ((e_T0 τ).cn C) K x q k (by omega) (by omega)
  have i' : τ1.2 49 = (ssnK l m n (τ.2 37) (τ.2 38) q x (τ.2 48) k).2 := i
  obtain ⟨hm1, h8, hn1, h6⟩ := k1.cn ((e_T0 τ).cn C)
  refine ⟨τ1, (e_T0 τ).tr (k1.up (by decide) (by decide)), (k1.1 0 (by decide)), (vR rfl).trans ((B_R_season_0 _ _ _ _ _ _ _).trans ?_)⟩
  simp only [m_pF, obs, is_ok (d + 6) _ hq hk, rw_ok (d + 6) _ hw, kC1_v, kC0_v, i10, eq_self, if_false, if_true, not_false_eq_true, B_R_season_29, rm_ok (d + 6), e]
  have : w = 0 ∨ w = 1 ∨ w = 2 ∨ w = 3 := by omega
  rcases this with rfl | rfl | rfl | rfl
  all_goals simp (disch := omega) only [m_gF, m_gI, m_pI, m_gIl, m_pIl, ii_m1, ii_s1, m_pF, obs, wF_1, wF_2, wA_1, wA_2, wR_1, wR_2, Nat.reduceEqDiff, Nat.reduceAdd, Nat.reduceMul, if_true, if_false, ite_true, ite_false, ii_la, ii_al, ii_lm, ii_ml, ii_add, ii_mul, ii_1, ii_le, ii_lt, ii_c1, ii_c2, ii_c3, ii_c4, ii_c5, ii_n1, ii_nn, kC0_v, kC1_v, kC2_v, kC3_v, kC0_x, kC1_x, kC2_x, not_true_eq_false, not_false_eq_true, ne_eq, c_R_allOnPlate (d + 5) b _ m n hm1 h8 hn1 h6, c_R_sitsAll (d + 6) b _ n hn1 h6, c_R_unseen (d + 4) b _ m n hm1 h8 hn1 h6, i', ssV]
theorem P_season {S : pS} {L : xA} {s τ : rT} {m n q : Nat} {l : List Nat} (I : Iv S L s τ m n q l) (hd : RD s τ) (x : Int32) (qq : Int32) (k : Int32) (w : Int32) : Pr m_L_season m_R_season [.int x, .int qq, .int k, .int w] S := by
  have I' := I; obtain ⟨D, A, hx, hr, ho, ⟨C, Cr, ⟨q1, q2, q3⟩, hy, hdy, hdk, xl, rl, hb1, hb2⟩, ⟨⟨tk, k1, k2, k3⟩, tb, tf, tr⟩, ⟨e48, hsc⟩, rc⟩ := I'; have C' := C; have Cr' := Cr; obtain ⟨hm, h8, hn, h6⟩ := C'; obtain ⟨hm', -, hn', -⟩ := Cr'
  have hL := (cR (d := 199) (M := m_L_season) (as := [.ref 0, .int x, .int qq, .int k, .int w, .ref 58]) (s := S)).trans (B_L_season_0 _ _ _ _ _ _ _ _)
  by_cases h0_ : (0 : Int32) ≤ qq ∧ qq ≤ 16
  · obtain ⟨qq, lqq, rfl⟩ := ii_ex (n := 17) (by decide) (Int32.le_trans (show (0 : Int32) ≤ 0 by decide) h0_.1) (Int32.lt_of_le_of_lt h0_.2 (by decide))
    by_cases h1_ : (1 : Int32) ≤ k ∧ k ≤ 96
    · obtain ⟨k, lk, rfl⟩ := ii_ex (n := 97) (by decide) (Int32.le_trans (show (0 : Int32) ≤ 1 by decide) h1_.1) (Int32.lt_of_le_of_lt h1_.2 (by decide))
      by_cases h2_ : (0 : Int32) ≤ w ∧ w ≤ 3
      · obtain ⟨w, lw, rfl⟩ := ii_ex (n := 4) (by decide) (Int32.le_trans (show (0 : Int32) ≤ 0 by decide) h2_.1) (Int32.lt_of_le_of_lt h2_.2 (by decide))
        have hfs : ∀ p, p < n → s.2 13 p = τ.2 38 p := fun p hp => by obtain ⟨-, j, -, -, e1, e2⟩ := hdk p hp; exact e1.trans e2.symm
        have ev : ssV m n (ssnK l m n (s.2 12) (s.2 13) qq x (s.2 0) k).2 w = ssV m n (ssnK l m n (τ.2 37) (τ.2 38) qq x (τ.2 48) k).2 w := by rw [e48, ssnK_c h6 (fun p hp => (hdk p hp).1) hfs]
        obtain ⟨b', s', hb, hs, e⟩ := Y_season 192 (b := S) D C xl hsc (Ot_lt A (Nat.le_refl _)) x qq k w h0_ lqq h1_ lk h2_ lw
        rw [← hx] at e
        exact P_v I hd hL (Go.b A hb (by decide)) hs e (fun b => by rw [ev]; exact R_season 192 b τ Cr rl (by rw [← e48]; exact hsc) x qq k w h0_ lqq h1_ lk h2_ lw)
      · have ya : ∀ d, vcall (d + 4) m_Y_season [.ref 0, .int x, .int (Int32.ofNat qq), .int (Int32.ofNat k), .int w] (xS S L s) = xA0 S L s := fun d => by
          refine (vY D rfl).trans ((B_Y_season_0 _ _ _ _ _ _ _).trans ?_)
          simp only [nR_ok (d + 1) D h0_, nR_ok (d + 1) D h1_, kC0_v]
          rw [nR_no (d + 1) D h2_]
          rfl
        have ra : ∀ d b, vcall (d + 3) m_R_season [.ref 30, .int x, .int (Int32.ofNat qq), .int (Int32.ofNat k), .int w] (mS b τ) = some (.inl (some (.int 0)), mS b (rN τ 1 1)) := fun d b => by
          refine (vR rfl).trans ((B_R_season_0 _ _ _ _ _ _ _).trans ?_)
          simp only [m_pF, obs, rm_ok (d + 1), is_ok (d + 1) _ h0_ h1_, rm_ok (d + 1), rw_no (d + 1) _ h2_, rm_n1 (d + 1) (show (1 : Int32) ≠ 0 by decide), kC1_v, i10, eq_self, if_true, if_false, not_true_eq_false, not_false_eq_true, B_R_season_29]
        exact P_a (k := 1) I hd hL (fun _ _ => rfl) (by decide) (ya 195) (ra 197)
    · have ya : ∀ d, vcall (d + 4) m_Y_season [.ref 0, .int x, .int (Int32.ofNat qq), .int k, .int w] (xS S L s) = xA0 S L s := fun d => by
        refine (vY D rfl).trans ((B_Y_season_0 _ _ _ _ _ _ _).trans ?_)
        simp only [nR_ok (d + 1) D h0_, kC0_v]
        rw [nR_no (d + 1) D h1_]
        rfl
      have ra : ∀ d b, vcall (d + 3) m_R_season [.ref 30, .int x, .int (Int32.ofNat qq), .int k, .int w] (mS b τ) = some (.inl (some (.int 0)), mS b (rN τ 1 1)) := fun d b => by
        refine (vR rfl).trans ((B_R_season_0 _ _ _ _ _ _ _).trans ?_)
        simp only [m_pF, obs, rm_ok (d + 1), is_n2 (d + 1) _ h0_ h1_, rm_n1 (d + 1) (show (1 : Int32) ≠ 0 by decide), kC1_v, i10, eq_self, if_true, if_false, not_true_eq_false, not_false_eq_true, B_R_season_29]
      exact P_a (k := 1) I hd hL (fun _ _ => rfl) (by decide) (ya 195) (ra 197)
  · have ya : ∀ d, vcall (d + 4) m_Y_season [.ref 0, .int x, .int qq, .int k, .int w] (xS S L s) = xA0 S L s := fun d => by
      refine (vY D rfl).trans ((B_Y_season_0 _ _ _ _ _ _ _).trans ?_)
      rw [nR_no (d + 1) D h0_]
      rfl
    have ra : ∀ d b, vcall (d + 3) m_R_season [.ref 30, .int x, .int qq, .int k, .int w] (mS b τ) = some (.inl (some (.int 0)), mS b (rN τ 1 1)) := fun d b => by
      refine (vR rfl).trans ((B_R_season_0 _ _ _ _ _ _ _).trans ?_)
      simp only [m_pF, obs, is_n1 (d + 1) _ h0_, rm_n1 (d + 1) (show (1 : Int32) ≠ 0 by decide), kC1_v, i10, eq_self, if_true, if_false, not_true_eq_false, not_false_eq_true, B_R_season_29]
    exact P_a (k := 1) I hd hL (fun _ _ => rfl) (by decide) (ya 195) (ra 197)
def spF (l : List Nat) (m n : Nat) (dk fs : Nat → Int32) (q : Nat) (x : Int32) (v : Nat → Int32) (k i : Nat) (y : Int32 × Int32 × Int32) : Int32 × Int32 × Int32 :=
  (if y.1 = -1 then sPlate m n (ssnK l m n dk fs q (x + Int32.ofNat i) v k).2 else if sPlate m n (ssnK l m n dk fs q (x + Int32.ofNat i) v k).2 < y.1 then sPlate m n (ssnK l m n dk fs q (x + Int32.ofNat i) v k).2 else y.1, if y.2.1 < sPlate m n (ssnK l m n dk fs q (x + Int32.ofNat i) v k).2 then sPlate m n (ssnK l m n dk fs q (x + Int32.ofNat i) v k).2 else y.2.1, if sUnseen m n (ssnK l m n dk fs q (x + Int32.ofNat i) v k).2 = 0 then y.2.2 + 1 else y.2.2)
def spV (y : Int32 × Int32 × Int32) (w : Nat) : Int32 := if w = 0 then y.1 else if w = 1 then y.2.1 else y.2.2
theorem Y_span (d : Nat) {b : pS} {L : xA} {s : rT} {m n : Nat} {l : List Nat} (D : Dj L) (C : Cn s m n) (xl : xLaw s l) (K : scI 800 m n (s.2 0)) (o : ∀ j, b.1 ≤ j → Ot L j) (x : Int32) (u q k w : Nat) (hu : (1 : Int32) ≤ Int32.ofNat u ∧ Int32.ofNat u ≤ 20) (lu : u < 21) (hq : (0 : Int32) ≤ Int32.ofNat q ∧ Int32.ofNat q ≤ 16) (lq : q < 17) (hk : (1 : Int32) ≤ Int32.ofNat k ∧ Int32.ofNat k ≤ 96) (lk : k < 97) (hw : (0 : Int32) ≤ Int32.ofNat w ∧ Int32.ofNat w ≤ 2) (lw : w < 3) : ∃ b' s', Bx b b' u ∧ Ex0 s s' ∧ vcall (d + 7) m_Y_span [.ref 0, .int x, .int (Int32.ofNat u), .int (Int32.ofNat q), .int (Int32.ofNat k), .int (Int32.ofNat w)] (xS b L s) = some (.inl (some (.int (spV (fo (spF l m n (s.2 12) (s.2 13) q x (s.2 0) k) u (-1, 0, 0)) w))), xS b' L s') := by
  obtain ⟨⟨b1, s1, y, v⟩, e, hb, k1, i⟩ := ex_loop (F := fun j (y : pS × rT × (Int32 × Int32 × Int32) × Value) => den (d + 6) m_Y_span 45 [.ref 0, .int x, .int (Int32.ofNat u), .int (Int32.ofNat q), .int (Int32.ofNat k), .int (Int32.ofNat w), .int y.2.2.1.1, .int y.2.2.1.2.1, .int y.2.2.1.2.2, .int (Int32.ofNat j), y.2.2.2] [] (xS y.1 L y.2.1)) (I := fun j y => Bx b y.1 j ∧ Kf [] [22, 23, 1] s y.2.1 ∧ y.2.2.1 = fo (spF l m n (s.2 12) (s.2 13) q x (s.2 0) k) j (-1, 0, 0)) u (b, s, (-1, 0, 0), mk0) ⟨⟨rfl, rfl, fun _ _ => rfl, fun _ _ => rfl⟩, Kf.rf _ _ s, rfl⟩ (fun j y hj hy => by
    obtain ⟨b1, s1, y, v⟩ := y
    obtain ⟨hb, k1, i⟩ := hy
    dsimp only at hb k1 i ⊢
    have e0 := k1.2 0 (by decide)
    obtain ⟨b2, s2, hb2, k2, i2, e2⟩ := c_Y_playSeason d (b := b1) D (k1.xcn C) (k1.xlaw xl) (by rw [e0]; exact K) (o _ (by have := hb.1; omega)) (x + Int32.ofNat j) q k (by omega) (by omega)
    rw [e0, k1.2 12 (by decide), k1.2 13 (by decide)] at i2
    have C2 := k2.xcn (k1.xcn C)
    refine ⟨(b2, s2, spF l m n (s.2 12) (s.2 13) q x (s.2 0) k j y, .int (sPlate m n (ssnK l m n (s.2 12) (s.2 13) q (x + Int32.ofNat j) (s.2 0) k).2)), ?_, hb.tr hb2, k1.tr k2, congrArg (spF l m n (s.2 12) (s.2 13) q x (s.2 0) k j) i⟩
    dsimp only
    rw [B_Y_span_45]
    simp (disch := omega) only [x0_gF D, sn_gF (SN_p D), sn_gI (SN_p D), xu_gF D, xu_gI D, xk_gF D, xk_gI D, x1_gF D, pl_ix, ii_m1, ii_s1, obs, wF_1, wF_2, wA_1, wA_2, wR_1, wR_2, Nat.reduceEqDiff, Nat.reduceAdd, Nat.reduceMul, if_true, if_false, ite_true, ite_false, ii_la, ii_al, ii_lm, ii_ml, ii_add, ii_mul, ii_1, ii_le, ii_lt, ii_c1, ii_c2, ii_c3, ii_c4, ii_c5, ii_n1, ii_nn, kC0_v, kC1_v, kC2_v, kC3_v, kC0_x, kC1_x, kC2_x, not_true_eq_false, not_false_eq_true, ne_eq, e2, c_S_onPlate (d + 2) (SN_q D) C2, i2, B_Y_span_89, c_S_unseen (d + 1) (SN_q D) C2, Int32.add_zero]
    rw [if_neg (by omega)]
    unfold spF
    by_cases h1 : y.1 = -1
    · by_cases h2 : sUnseen m n (ssnK l m n (s.2 12) (s.2 13) q (x + Int32.ofNat j) (s.2 0) k).2 = 0 <;> simp [h1, h2]
    · by_cases h2 : sUnseen m n (ssnK l m n (s.2 12) (s.2 13) q (x + Int32.ofNat j) (s.2 0) k).2 = 0 <;> simp [h1, h2])
  dsimp only at e hb k1 i
  refine ⟨b1, s1, hb, Ex0.t k1, (vY D rfl).trans ((B_Y_span_0 _ _ _ _ _ _ _ _).trans ?_)⟩
  simp only [nR_ok (d + 4) D hu, nR_ok (d + 4) D hq, nR_ok (d + 4) D hk, nR_ok (d + 4) D hw, kC0_v]
  refine e.trans ?_
  rw [B_Y_span_45, i]
  have : w = 0 ∨ w = 1 ∨ w = 2 := by omega
  rcases this with rfl | rfl | rfl
  all_goals simp (disch := omega) only [ii_m1, ii_s1, obs, wF_1, wF_2, wA_1, wA_2, wR_1, wR_2, Nat.reduceEqDiff, Nat.reduceAdd, Nat.reduceMul, if_true, if_false, ite_true, ite_false, ii_la, ii_al, ii_lm, ii_ml, ii_add, ii_mul, ii_1, ii_le, ii_lt, ii_c1, ii_c2, ii_c3, ii_c4, ii_c5, ii_n1, ii_nn, kC0_v, kC1_v, kC2_v, kC3_v, kC0_x, kC1_x, kC2_x, not_true_eq_false, not_false_eq_true, ne_eq, spV]
  all_goals rw [if_pos (Nat.le_refl u)]
theorem R_span (d : Nat) (b : pS) (τ : rT) {m n : Nat} {l : List Nat} (C : rCn τ m n) (rl : rLaw τ l) (K : scI 800 m n (τ.2 48)) (x : Int32) (u q k w : Nat) (hu : (1 : Int32) ≤ Int32.ofNat u ∧ Int32.ofNat u ≤ 20) (lu : u < 21) (hq : (0 : Int32) ≤ Int32.ofNat q ∧ Int32.ofNat q ≤ 16) (lq : q < 17) (hk : (1 : Int32) ≤ Int32.ofNat k ∧ Int32.ofNat k ≤ 96) (lk : k < 97) (hw : (0 : Int32) ≤ Int32.ofNat w ∧ Int32.ofNat w ≤ 2) (lw : w < 3) : ∃ τ', Er0 τ τ' ∧ τ'.1 0 = 0 ∧ vcall (d + 8) m_R_span [.ref 30, .int x, .int (Int32.ofNat u), .int (Int32.ofNat q), .int (Int32.ofNat k), .int (Int32.ofNat w)] (mS b τ) = some (.inl (some (.int (spV (fo (spF l m n (τ.2 37) (τ.2 38) q x (τ.2 48) k) u (-1, 0, 0)) w))), mS b τ') := by
  have C0 : rCn (wF τ 0 0) m n := C
  have rl0 : rLaw (wF τ 0 0) l := rl
  obtain ⟨⟨s1, y, v⟩, e, k1, i⟩ := ex_loop (F := fun j (y : rT × (Int32 × Int32 × Int32) × Value) => den (d + 7) m_R_span 62 [.ref 30, .int x, .int (Int32.ofNat u), .int (Int32.ofNat q), .int (Int32.ofNat k), .int (Int32.ofNat w), .int y.2.1.1, .int y.2.1.2.1, .int y.2.1.2.2, .int (Int32.ofNat j), y.2.2] [] (mS b y.1)) (I := fun j y => Kf [52] [44, 45, 49, 51] (wF τ 0 0) y.1 ∧ y.2.1 = fo (spF l m n (τ.2 37) (τ.2 38) q x (τ.2 48) k) j (-1, 0, 0)) u (wF τ 0 0, (-1, 0, 0), mk0) ⟨Kf.rf _ _ _, rfl⟩ (fun j y hj hy => by
    obtain ⟨s1, y, v⟩ := y
    obtain ⟨k1, i⟩ := hy
    dsimp only at k1 i ⊢
    have e0 : s1.2 48 = τ.2 48 := k1.2 48 (by decide)
    have e37 : s1.2 37 = τ.2 37 := k1.2 37 (by decide)
    have e38 : s1.2 38 = τ.2 38 := k1.2 38 (by decide)
    obtain ⟨s2, k2, i2, e2⟩ := c_R_seasonGoes d b s1 (k1.law rl0) (k1.cn C0) (by rw [e0]; exact K) (x + Int32.ofNat j) q k (by omega) (by omega)
    rw [e0, e37, e38] at i2
    obtain ⟨hm1, h8, hn1, h6⟩ := k2.cn (k1.cn C0)
    refine ⟨(s2, spF l m n (τ.2 37) (τ.2 38) q x (τ.2 48) k j y, .int (sPlate m n (ssnK l m n (τ.2 37) (τ.2 38) q (x + Int32.ofNat j) (τ.2 48) k).2)), ?_, k1.tr k2, congrArg (spF l m n (τ.2 37) (τ.2 38) q x (τ.2 48) k j) i⟩
    dsimp only
    rw [B_R_span_62]
    simp (disch := omega) only [m_gF, m_gI, m_pI, m_gIl, m_pIl, ii_m1, ii_s1, m_pF, obs, wF_1, wF_2, wA_1, wA_2, wR_1, wR_2, Nat.reduceEqDiff, Nat.reduceAdd, Nat.reduceMul, if_true, if_false, ite_true, ite_false, ii_la, ii_al, ii_lm, ii_ml, ii_add, ii_mul, ii_1, ii_le, ii_lt, ii_c1, ii_c2, ii_c3, ii_c4, ii_c5, ii_n1, ii_nn, kC0_v, kC1_v, kC2_v, kC3_v, kC0_x, kC1_x, kC2_x, not_true_eq_false, not_false_eq_true, ne_eq, e2, c_R_allOnPlate (d + 5) b _ m n hm1 h8 hn1 h6, i2, B_R_span_98, B_R_span_121, c_R_unseen (d + 4) b _ m n hm1 h8 hn1 h6, Int32.add_zero]
    rw [if_neg (by omega)]
    unfold spF
    generalize sPlate m n (ssnK l m n (τ.2 37) (τ.2 38) q (x + Int32.ofNat j) (τ.2 48) k).2 = p
    have hmx : (if y.2.1 < p then p else y.2.1) = if p ≤ y.2.1 then y.2.1 else p := by
      by_cases h : p ≤ y.2.1
      · rw [if_pos h, if_neg (Int32.not_lt.mpr h)]
      · rw [if_neg h, if_pos (Int32.not_le.mp h)]
    have hmn : (if p < y.1 then p else y.1) = if y.1 ≤ p then y.1 else p := by
      by_cases h : y.1 ≤ p
      · rw [if_pos h, if_neg (Int32.not_lt.mpr h)]
      · rw [if_neg h, if_pos (Int32.not_le.mp h)]
    rw [hmx, hmn]
    by_cases h2 : sUnseen m n (ssnK l m n (τ.2 37) (τ.2 38) q (x + Int32.ofNat j) (τ.2 48) k).2 = 0
    · by_cases h1 : y.1 = -1
      · by_cases h3 : p ≤ y.2.1 <;> simp [h1, h2, h3]
      · by_cases h3 : p ≤ y.2.1 <;> by_cases h4 : y.1 ≤ p <;> simp [h1, h2, h3, h4]
    · by_cases h1 : y.1 = -1
      · by_cases h3 : p ≤ y.2.1 <;> simp [h1, h2, h3]
      · by_cases h3 : p ≤ y.2.1 <;> by_cases h4 : y.1 ≤ p <;> simp [h1, h2, h3, h4])
  dsimp only at e k1 i
  refine ⟨s1, (e_T0 τ).tr (k1.up (by decide) (by decide)), k1.1 0 (by decide), (vR rfl).trans ((B_R_span_0 _ _ _ _ _ _ _ _).trans ?_)⟩
  simp only [m_pF, obs, is_ok (d + 6) _ hq hk, rw_ok (d + 6) _ hu, rw_ok (d + 6) _ hw, kC1_v, kC0_v, i10, eq_self, if_false, if_true, not_false_eq_true, B_R_span_40, rm_ok (d + 6)]
  refine e.trans ?_
  rw [B_R_span_62, i]
  have : w = 0 ∨ w = 1 ∨ w = 2 := by omega
  rcases this with rfl | rfl | rfl
  all_goals simp (disch := omega) only [ii_m1, ii_s1, obs, wF_1, wF_2, wA_1, wA_2, wR_1, wR_2, Nat.reduceEqDiff, Nat.reduceAdd, Nat.reduceMul, if_true, if_false, ite_true, ite_false, ii_la, ii_al, ii_lm, ii_ml, ii_add, ii_mul, ii_1, ii_le, ii_lt, ii_c1, ii_c2, ii_c3, ii_c4, ii_c5, ii_n1, ii_nn, kC0_v, kC1_v, kC2_v, kC3_v, kC0_x, kC1_x, kC2_x, not_true_eq_false, not_false_eq_true, ne_eq, spV]
  all_goals rw [if_pos (Nat.le_refl u)]
theorem P_span {S : pS} {L : xA} {s τ : rT} {m n q : Nat} {l : List Nat} (I : Iv S L s τ m n q l) (hd : RD s τ) (x : Int32) (u : Int32) (qq : Int32) (k : Int32) (w : Int32) : Pr m_L_span m_R_span [.int x, .int u, .int qq, .int k, .int w] S := by
  have I' := I; obtain ⟨D, A, hx, hr, ho, ⟨C, Cr, ⟨q1, q2, q3⟩, hy, hdy, hdk, xl, rl, hb1, hb2⟩, ⟨⟨tk, k1, k2, k3⟩, tb, tf, tr⟩, ⟨e48, hsc⟩, rc⟩ := I'; have C' := C; have Cr' := Cr; obtain ⟨hm, h8, hn, h6⟩ := C'; obtain ⟨hm', -, hn', -⟩ := Cr'
  have hL := (cR (d := 199) (M := m_L_span) (as := [.ref 0, .int x, .int u, .int qq, .int k, .int w, .ref 58]) (s := S)).trans (B_L_span_0 _ _ _ _ _ _ _ _ _)
  by_cases h0_ : (1 : Int32) ≤ u ∧ u ≤ 20
  · obtain ⟨u, lu, rfl⟩ := ii_ex (n := 21) (by decide) (Int32.le_trans (show (0 : Int32) ≤ 1 by decide) h0_.1) (Int32.lt_of_le_of_lt h0_.2 (by decide))
    by_cases h1_ : (0 : Int32) ≤ qq ∧ qq ≤ 16
    · obtain ⟨qq, lqq, rfl⟩ := ii_ex (n := 17) (by decide) (Int32.le_trans (show (0 : Int32) ≤ 0 by decide) h1_.1) (Int32.lt_of_le_of_lt h1_.2 (by decide))
      by_cases h2_ : (1 : Int32) ≤ k ∧ k ≤ 96
      · obtain ⟨k, lk, rfl⟩ := ii_ex (n := 97) (by decide) (Int32.le_trans (show (0 : Int32) ≤ 1 by decide) h2_.1) (Int32.lt_of_le_of_lt h2_.2 (by decide))
        by_cases h3_ : (0 : Int32) ≤ w ∧ w ≤ 2
        · obtain ⟨w, lw, rfl⟩ := ii_ex (n := 3) (by decide) (Int32.le_trans (show (0 : Int32) ≤ 0 by decide) h3_.1) (Int32.lt_of_le_of_lt h3_.2 (by decide))
          have hfs : ∀ p, p < n → s.2 13 p = τ.2 38 p := fun p hp => by obtain ⟨-, j, -, -, e1, e2⟩ := hdk p hp; exact e1.trans e2.symm
          have ev : fo (spF l m n (s.2 12) (s.2 13) qq x (s.2 0) k) u (-1, 0, 0) = fo (spF l m n (τ.2 37) (τ.2 38) qq x (τ.2 48) k) u (-1, 0, 0) := fo_congr u _ (fun j a _ => by unfold spF; rw [e48, ssnK_c h6 (fun p hp => (hdk p hp).1) hfs])
          obtain ⟨b', s', hb, hs, e⟩ := Y_span 192 (b := S) D C xl hsc (fun j hj => Ot_lt A hj) x u qq k w h0_ lu h1_ lqq h2_ lk h3_ lw
          rw [← hx] at e
          exact P_v I hd hL (Go.b A hb (by omega)) hs e (fun b => by rw [ev]; exact R_span 192 b τ Cr rl (by rw [← e48]; exact hsc) x u qq k w h0_ lu h1_ lqq h2_ lk h3_ lw)
        · have ya : ∀ d, vcall (d + 4) m_Y_span [.ref 0, .int x, .int (Int32.ofNat u), .int (Int32.ofNat qq), .int (Int32.ofNat k), .int w] (xS S L s) = xA0 S L s := fun d => by
            refine (vY D rfl).trans ((B_Y_span_0 _ _ _ _ _ _ _ _).trans ?_)
            simp only [nR_ok (d + 1) D h0_, nR_ok (d + 1) D h1_, nR_ok (d + 1) D h2_, kC0_v]
            rw [nR_no (d + 1) D h3_]
            rfl
          have ra : ∀ d b, vcall (d + 3) m_R_span [.ref 30, .int x, .int (Int32.ofNat u), .int (Int32.ofNat qq), .int (Int32.ofNat k), .int w] (mS b τ) = some (.inl (some (.int 0)), mS b (rN τ 1 1)) := fun d b => by
            refine (vR rfl).trans ((B_R_span_0 _ _ _ _ _ _ _ _).trans ?_)
            simp only [m_pF, obs, rw_ok (d + 1) _ h0_, rm_ok (d + 1), rm_ok (d + 1), is_ok (d + 1) _ h1_ h2_, rm_ok (d + 1), rw_no (d + 1) _ h3_, rm_n1 (d + 1) (show (1 : Int32) ≠ 0 by decide), kC1_v, i10, eq_self, if_true, if_false, not_true_eq_false, not_false_eq_true, B_R_span_40]
          exact P_a (k := 1) I hd hL (fun _ _ => rfl) (by decide) (ya 195) (ra 197)
      · have ya : ∀ d, vcall (d + 4) m_Y_span [.ref 0, .int x, .int (Int32.ofNat u), .int (Int32.ofNat qq), .int k, .int w] (xS S L s) = xA0 S L s := fun d => by
          refine (vY D rfl).trans ((B_Y_span_0 _ _ _ _ _ _ _ _).trans ?_)
          simp only [nR_ok (d + 1) D h0_, nR_ok (d + 1) D h1_, kC0_v]
          rw [nR_no (d + 1) D h2_]
          rfl
        have ra : ∀ d b, vcall (d + 3) m_R_span [.ref 30, .int x, .int (Int32.ofNat u), .int (Int32.ofNat qq), .int k, .int w] (mS b τ) = some (.inl (some (.int 0)), mS b (rN τ 1 1)) := fun d b => by
          refine (vR rfl).trans ((B_R_span_0 _ _ _ _ _ _ _ _).trans ?_)
          simp only [m_pF, obs, rw_ok (d + 1) _ h0_, rm_ok (d + 1), rm_ok (d + 1), is_n2 (d + 1) _ h1_ h2_, rm_n1 (d + 1) (show (1 : Int32) ≠ 0 by decide), kC1_v, i10, eq_self, if_true, if_false, not_true_eq_false, not_false_eq_true, B_R_span_40]
        exact P_a (k := 1) I hd hL (fun _ _ => rfl) (by decide) (ya 195) (ra 197)
    · have ya : ∀ d, vcall (d + 4) m_Y_span [.ref 0, .int x, .int (Int32.ofNat u), .int qq, .int k, .int w] (xS S L s) = xA0 S L s := fun d => by
        refine (vY D rfl).trans ((B_Y_span_0 _ _ _ _ _ _ _ _).trans ?_)
        simp only [nR_ok (d + 1) D h0_, kC0_v]
        rw [nR_no (d + 1) D h1_]
        rfl
      have ra : ∀ d b, vcall (d + 3) m_R_span [.ref 30, .int x, .int (Int32.ofNat u), .int qq, .int k, .int w] (mS b τ) = some (.inl (some (.int 0)), mS b (rN τ 1 1)) := fun d b => by
        refine (vR rfl).trans ((B_R_span_0 _ _ _ _ _ _ _ _).trans ?_)
        simp only [m_pF, obs, rw_ok (d + 1) _ h0_, rm_ok (d + 1), is_n1 (d + 1) _ h1_, rm_n1 (d + 1) (show (1 : Int32) ≠ 0 by decide), kC1_v, i10, eq_self, if_true, if_false, not_true_eq_false, not_false_eq_true, B_R_span_40]
      exact P_a (k := 1) I hd hL (fun _ _ => rfl) (by decide) (ya 195) (ra 197)
  · have ya : ∀ d, vcall (d + 4) m_Y_span [.ref 0, .int x, .int u, .int qq, .int k, .int w] (xS S L s) = xA0 S L s := fun d => by
      refine (vY D rfl).trans ((B_Y_span_0 _ _ _ _ _ _ _ _).trans ?_)
      rw [nR_no (d + 1) D h0_]
      rfl
    have ra : ∀ d b, vcall (d + 3) m_R_span [.ref 30, .int x, .int u, .int qq, .int k, .int w] (mS b τ) = some (.inl (some (.int 0)), mS b (rN τ 1 1)) := fun d b => by
      refine (vR rfl).trans ((B_R_span_0 _ _ _ _ _ _ _ _).trans ?_)
      simp only [m_pF, obs, rw_no (d + 1) _ h0_, rm_n1 (d + 1) (show (1 : Int32) ≠ 0 by decide), kC1_v, i10, eq_self, if_true, if_false, not_true_eq_false, not_false_eq_true, B_R_span_40]
    exact P_a (k := 1) I hd hL (fun _ _ => rfl) (by decide) (ya 195) (ra 197)
/-- a pair of sitters: do both stain one seat? -/
def stF (m : Nat) (v : Nat → Int32) (a c : Nat) (x : Int32 × Int32) : Int32 × Int32 := if sSelves m v a &&& sSelves m v c = 0 then x else (x.1 + 1, if x.2 = -1 then 10 * Int32.ofNat a + Int32.ofNat c else x.2)
def stI (m n : Nat) (v : Nat → Int32) (a : Nat) (x : Int32 × Int32) : Int32 × Int32 := fo (fun j x => stF m v a (a + 1 + j) x) (n - (a + 1)) x
def stV (m n : Nat) (v : Nat → Int32) (w : Nat) : Int32 := if w = 0 then (fo (stI m n v) n (0, -1)).1 else (fo (stI m n v) n (0, -1)).2
theorem Y_stains (d : Nat) {b : pS} {L : xA} {s : rT} {m n : Nat} (D : Dj L) (C : Cn s m n) (w : Nat) (hw : w < 2) (h : (0 : Int32) ≤ Int32.ofNat w ∧ Int32.ofNat w ≤ 1) : vcall (d + 6) m_Y_stains [.ref 0, .int (Int32.ofNat w)] (xS b L s) = some (.inl (some (.int (stV m n (s.2 0) w))), xS b L s) := by
  have C' := C
  obtain ⟨hm, h8, hn, h6⟩ := C'
  refine (vY D rfl).trans ((B_Y_stains_0 _ _ _ _).trans ?_)
  rw [nR_ok (d + 3) D h, kC0_v]
  obtain ⟨⟨x, v⟩, e, i⟩ := ex_loop (F := fun k (x : (Int32 × Int32) × Value) => den (d + 5) m_Y_stains 14 [.ref 0, .int (Int32.ofNat w), .int x.1.1, .int x.1.2, .int (Int32.ofNat k), x.2] [] (xS b L s)) (I := fun k x => x.1 = fo (stI m n (s.2 0)) k (0, -1)) n ((0, -1), mk0) rfl (fun k x hk hx => by
    refine ⟨(stI m n (s.2 0) k x.1, .int (Int32.ofNat n)), ?_, congrArg (stI m n (s.2 0) k) hx⟩
    dsimp only
    rw [B_Y_stains_14]
    simp (disch := omega) only [x0_gF D, sn_gF (SN_p D), sn_gI (SN_p D), xu_gF D, xu_gI D, xk_gF D, xk_gI D, x1_gF D, pl_ix, ii_m1, ii_s1, obs, wF_1, wF_2, wA_1, wA_2, wR_1, wR_2, Nat.reduceEqDiff, Nat.reduceAdd, Nat.reduceMul, if_true, if_false, ite_true, ite_false, ii_la, ii_al, ii_lm, ii_ml, ii_add, ii_mul, ii_1, ii_le, ii_lt, ii_c1, ii_c2, ii_c3, ii_c4, ii_c5, ii_n1, ii_nn, kC0_v, kC1_v, kC2_v, kC3_v, kC0_x, kC1_x, kC2_x, not_true_eq_false, not_false_eq_true, ne_eq, hn]
    rw [if_neg (by omega)]
    refine (fo_loop (F := fun j (y : Int32 × Int32) => den (d + 5) m_Y_stains 32 [.ref 0, .int (Int32.ofNat w), .int y.1, .int y.2, .int (Int32.ofNat k), .int (Int32.ofNat (k + 1 + j))] [] (xS b L s)) (f := fun j y => stF m (s.2 0) k (k + 1 + j) y) (n - (k + 1)) (fun j y hj => ?_) x.1).trans ?_
    · rw [B_Y_stains_32]
      simp (disch := omega) only [x0_gF D, sn_gF (SN_p D), sn_gI (SN_p D), xu_gF D, xu_gI D, xk_gF D, xk_gI D, x1_gF D, pl_ix, ii_m1, ii_s1, obs, wF_1, wF_2, wA_1, wA_2, wR_1, wR_2, Nat.reduceEqDiff, Nat.reduceAdd, Nat.reduceMul, if_true, if_false, ite_true, ite_false, ii_la, ii_al, ii_lm, ii_ml, ii_add, ii_mul, ii_1, ii_le, ii_lt, ii_c1, ii_c2, ii_c3, ii_c4, ii_c5, ii_n1, ii_nn, kC0_v, kC1_v, kC2_v, kC3_v, kC0_x, kC1_x, kC2_x, not_true_eq_false, not_false_eq_true, ne_eq, hn, c_S_selvesOf (d + 2) (SN_p D) C]
      rw [if_neg (by omega)]
      unfold stF
      by_cases h1 : sSelves m (s.2 0) k &&& sSelves m (s.2 0) (k + 1 + j) = 0
      · simp only [h1, if_true]; rfl
      · simp only [h1, if_false]
        by_cases h2 : y.2 = -1
        · simp only [h2, if_true, not_true_eq_false, if_false]
          simp (disch := omega) only [ii_m1, ii_s1, obs, wF_1, wF_2, wA_1, wA_2, wR_1, wR_2, Nat.reduceEqDiff, Nat.reduceAdd, Nat.reduceMul, if_true, if_false, ite_true, ite_false, ii_la, ii_al, ii_lm, ii_ml, ii_add, ii_mul, ii_1, ii_le, ii_lt, ii_c1, ii_c2, ii_c3, ii_c4, ii_c5, ii_n1, ii_nn, kC0_v, kC1_v, kC2_v, kC3_v, kC0_x, kC1_x, kC2_x, not_true_eq_false, not_false_eq_true, ne_eq]
          rfl
        · simp only [h2, if_false, not_false_eq_true, if_true]; rfl
    · rw [show k + 1 + (n - (k + 1)) = n by omega, B_Y_stains_32]
      simp (disch := omega) only [x0_gF D, sn_gF (SN_p D), sn_gI (SN_p D), xu_gF D, xu_gI D, xk_gF D, xk_gI D, x1_gF D, pl_ix, ii_m1, ii_s1, obs, wF_1, wF_2, wA_1, wA_2, wR_1, wR_2, Nat.reduceEqDiff, Nat.reduceAdd, Nat.reduceMul, if_true, if_false, ite_true, ite_false, ii_la, ii_al, ii_lm, ii_ml, ii_add, ii_mul, ii_1, ii_le, ii_lt, ii_c1, ii_c2, ii_c3, ii_c4, ii_c5, ii_n1, ii_nn, kC0_v, kC1_v, kC2_v, kC3_v, kC0_x, kC1_x, kC2_x, not_true_eq_false, not_false_eq_true, ne_eq, hn]
      rw [if_pos (Nat.le_refl n)]
      rfl)
  refine e.trans ?_
  dsimp only at i ⊢
  rw [B_Y_stains_14]
  simp (disch := omega) only [x0_gF D, sn_gF (SN_p D), sn_gI (SN_p D), xu_gF D, xu_gI D, xk_gF D, xk_gI D, x1_gF D, pl_ix, ii_m1, ii_s1, obs, wF_1, wF_2, wA_1, wA_2, wR_1, wR_2, Nat.reduceEqDiff, Nat.reduceAdd, Nat.reduceMul, if_true, if_false, ite_true, ite_false, ii_la, ii_al, ii_lm, ii_ml, ii_add, ii_mul, ii_1, ii_le, ii_lt, ii_c1, ii_c2, ii_c3, ii_c4, ii_c5, ii_n1, ii_nn, kC0_v, kC1_v, kC2_v, kC3_v, kC0_x, kC1_x, kC2_x, not_true_eq_false, not_false_eq_true, ne_eq, hn]
  rw [if_pos (Nat.le_refl n), i]
  unfold stV
  by_cases h0 : w = 0 <;> simp [h0]
/-- is there a seat that both stain, up to the k-th? -/
def isB (v : Nat → Int32) (a c k : Nat) : Int32 := fo (fun t x => if ¬ x = 0 then 1 else if v (26 + 6 * t + a) ≤ 0 then 0 else if v (26 + 6 * t + c) ≤ 0 then 0 else 1) k 0
theorem isB_0 (v : Nat → Int32) (a c k : Nat) : isB v a c k = 0 ↔ ∀ t, t < k → ¬ (0 < v (26 + 6 * t + a) ∧ 0 < v (26 + 6 * t + c)) := by
  induction k with
  | zero => exact ⟨fun _ t ht => absurd ht (Nat.not_lt_zero t), fun _ => rfl⟩
  | succ k ih =>
    show (if ¬ isB v a c k = 0 then (1 : Int32) else if v (26 + 6 * k + a) ≤ 0 then 0 else if v (26 + 6 * k + c) ≤ 0 then 0 else 1) = 0 ↔ _
    by_cases h : isB v a c k = 0
    · rw [if_neg (fun g => g h)]
      have h' := ih.mp h
      have key : (∀ t, t < k + 1 → ¬ (0 < v (26 + 6 * t + a) ∧ 0 < v (26 + 6 * t + c))) ↔ ¬ (0 < v (26 + 6 * k + a) ∧ 0 < v (26 + 6 * k + c)) := ⟨fun g => g k (by omega), fun g t ht => by
        by_cases e : t = k
        · subst e; exact g
        · exact h' t (by omega)⟩
      rw [key]
      by_cases h1 : v (26 + 6 * k + a) ≤ 0
      · rw [if_pos h1]; simp [Int32.not_lt.mpr h1]
      · rw [if_neg h1]
        by_cases h2 : v (26 + 6 * k + c) ≤ 0
        · rw [if_pos h2]; simp [Int32.not_lt.mpr h2]
        · rw [if_neg h2]; simp [Int32.not_le.mp h1, Int32.not_le.mp h2]
    · rw [if_pos h]
      constructor
      · intro g; exact absurd g (by decide)
      · intro g; exact absurd (ih.mpr (fun t ht => g t (by omega))) h
theorem R_stains (d : Nat) (b : pS) (τ : rT) {m n : Nat} (C : rCn τ m n) (w : Nat) (hw : w < 2) (h : (0 : Int32) ≤ Int32.ofNat w ∧ Int32.ofNat w ≤ 1) : vcall (d + 6) m_R_stains [.ref 30, .int (Int32.ofNat w)] (mS b τ) = some (.inl (some (.int (stV m n (τ.2 48) w))), mS b (wF τ 0 0)) := by
  obtain ⟨hm, h8, hn, h6⟩ := C
  refine (vR rfl).trans ((B_R_stains_0 _ _ _ _).trans ?_)
  simp (disch := omega) only [m_pF, obs, rw_ok (d + 4) _ h, kC1_v, rm_ok (d + 4), i10, eq_self, if_false, if_true, not_false_eq_true]
  obtain ⟨⟨x, v⟩, e, i⟩ := ex_loop (F := fun k (x : (Int32 × Int32) × Value × Value × Value) => den (d + 5) m_R_stains 29 [.ref 30, .int (Int32.ofNat w), .int x.1.1, .int x.1.2, .int (Int32.ofNat k), x.2.1, x.2.2.1, x.2.2.2] [] (mS b (wF τ 0 0))) (I := fun k x => x.1 = fo (stI m n (τ.2 48)) k (0, -1)) n ((0, -1), mk0, mk0, mk0) rfl (fun k x hk hx => by
    obtain ⟨⟨y, v⟩, e2, i2⟩ := ex_loop (F := fun j (y : (Int32 × Int32) × Value × Value) => den (d + 5) m_R_stains 44 [.ref 30, .int (Int32.ofNat w), .int y.1.1, .int y.1.2, .int (Int32.ofNat k), .int (Int32.ofNat (k + 1 + j)), y.2.1, y.2.2] [] (mS b (wF τ 0 0))) (I := fun j y => y.1 = fo (fun j x => stF m (τ.2 48) k (k + 1 + j) x) j x.1) (n - (k + 1)) (x.1, x.2.2) rfl (fun j y hj hy => by
      refine ⟨(stF m (τ.2 48) k (k + 1 + j) y.1, .int (isB (τ.2 48) k (k + 1 + j) m), .int (Int32.ofNat m)), ?_, congrArg (stF m (τ.2 48) k (k + 1 + j)) hy⟩
      dsimp only
      rw [B_R_stains_44]
      simp (disch := omega) only [m_gF, m_gI, m_pI, m_gIl, m_pIl, ii_m1, ii_s1, m_pF, obs, wF_1, wF_2, wA_1, wA_2, wR_1, wR_2, Nat.reduceEqDiff, Nat.reduceAdd, Nat.reduceMul, if_true, if_false, ite_true, ite_false, ii_la, ii_al, ii_lm, ii_ml, ii_add, ii_mul, ii_1, ii_le, ii_lt, ii_c1, ii_c2, ii_c3, ii_c4, ii_c5, ii_n1, ii_nn, kC0_v, kC1_v, kC2_v, kC3_v, kC0_x, kC1_x, kC2_x, not_true_eq_false, not_false_eq_true, ne_eq, hn]
      rw [if_neg (by omega)]
      refine (fo_loop (F := fun t (z : Int32) => den (d + 5) m_R_stains 59 [.ref 30, .int (Int32.ofNat w), .int y.1.1, .int y.1.2, .int (Int32.ofNat k), .int (Int32.ofNat (k + 1 + j)), .int z, .int (Int32.ofNat t)] [] (mS b (wF τ 0 0))) (f := fun t x => if ¬ x = 0 then 1 else if τ.2 48 (26 + 6 * t + k) ≤ 0 then 0 else if τ.2 48 (26 + 6 * t + (k + 1 + j)) ≤ 0 then 0 else 1) m (fun t z ht => ?_) 0).trans ?_
      · rw [B_R_stains_59]
        simp (disch := omega) only [m_gF, m_gI, m_pI, m_gIl, m_pIl, ii_m1, ii_s1, m_pF, obs, wF_1, wF_2, wA_1, wA_2, wR_1, wR_2, Nat.reduceEqDiff, Nat.reduceAdd, Nat.reduceMul, if_true, if_false, ite_true, ite_false, ii_la, ii_al, ii_lm, ii_ml, ii_add, ii_mul, ii_1, ii_le, ii_lt, ii_c1, ii_c2, ii_c3, ii_c4, ii_c5, ii_n1, ii_nn, kC0_v, kC1_v, kC2_v, kC3_v, kC0_x, kC1_x, kC2_x, not_true_eq_false, not_false_eq_true, ne_eq, hm]
        rw [if_neg (by omega)]
        by_cases h1 : z = 0
        · simp only [h1, not_true_eq_false, if_false]
          by_cases h2 : τ.2 48 (26 + 6 * t + k) ≤ 0
          · simp only [h2, if_true]
          · simp only [h2, if_false]
            split <;> rfl
        · simp only [h1, not_false_eq_true, if_true]
      · have hb : (isB (τ.2 48) k (k + 1 + j) m = 0) = (sSelves m (τ.2 48) k &&& sSelves m (τ.2 48) (k + 1 + j) = 0) := propext ((isB_0 _ _ _ _).trans (selves_and h8 _ _ _).symm)
        show den _ _ _ [_, _, _, _, _, _, .int (isB (τ.2 48) k (k + 1 + j) m), _] [] _ = _
        rw [B_R_stains_59]
        simp (disch := omega) only [m_gF, m_gI, m_pI, m_gIl, m_pIl, ii_m1, ii_s1, m_pF, obs, wF_1, wF_2, wA_1, wA_2, wR_1, wR_2, Nat.reduceEqDiff, Nat.reduceAdd, Nat.reduceMul, if_true, if_false, ite_true, ite_false, ii_la, ii_al, ii_lm, ii_ml, ii_add, ii_mul, ii_1, ii_le, ii_lt, ii_c1, ii_c2, ii_c3, ii_c4, ii_c5, ii_n1, ii_nn, kC0_v, kC1_v, kC2_v, kC3_v, kC0_x, kC1_x, kC2_x, not_true_eq_false, not_false_eq_true, ne_eq, hm, B_R_stains_135, hb, Int32.add_zero]
        rw [if_pos (Nat.le_refl m)]
        unfold stF
        by_cases h1 : sSelves m (τ.2 48) k &&& sSelves m (τ.2 48) (k + 1 + j) = 0
        · simp only [h1, if_true]; rfl
        · simp only [h1, if_false]
          by_cases h2 : y.1.2 = -1
          · simp only [h2, if_true, not_true_eq_false, if_false]
            simp (disch := omega) only [ii_m1, ii_s1, obs, wF_1, wF_2, wA_1, wA_2, wR_1, wR_2, Nat.reduceEqDiff, Nat.reduceAdd, Nat.reduceMul, if_true, if_false, ite_true, ite_false, ii_la, ii_al, ii_lm, ii_ml, ii_add, ii_mul, ii_1, ii_le, ii_lt, ii_c1, ii_c2, ii_c3, ii_c4, ii_c5, ii_n1, ii_nn, kC0_v, kC1_v, kC2_v, kC3_v, kC0_x, kC1_x, kC2_x, not_true_eq_false, not_false_eq_true, ne_eq]
            rfl
          · simp only [h2, if_false, not_false_eq_true, if_true]; rfl)
    refine ⟨(stI m n (τ.2 48) k x.1, .int (Int32.ofNat n), v.1, v.2), ?_, congrArg (stI m n (τ.2 48) k) hx⟩
    dsimp only
    rw [B_R_stains_29]
    simp (disch := omega) only [m_gF, m_gI, m_pI, m_gIl, m_pIl, ii_m1, ii_s1, m_pF, obs, wF_1, wF_2, wA_1, wA_2, wR_1, wR_2, Nat.reduceEqDiff, Nat.reduceAdd, Nat.reduceMul, if_true, if_false, ite_true, ite_false, ii_la, ii_al, ii_lm, ii_ml, ii_add, ii_mul, ii_1, ii_le, ii_lt, ii_c1, ii_c2, ii_c3, ii_c4, ii_c5, ii_n1, ii_nn, kC0_v, kC1_v, kC2_v, kC3_v, kC0_x, kC1_x, kC2_x, not_true_eq_false, not_false_eq_true, ne_eq, hn]
    rw [if_neg (by omega)]
    refine e2.trans ?_
    dsimp only at i2 ⊢
    rw [show k + 1 + (n - (k + 1)) = n by omega, B_R_stains_44]
    simp (disch := omega) only [m_gF, m_gI, m_pI, m_gIl, m_pIl, ii_m1, ii_s1, m_pF, obs, wF_1, wF_2, wA_1, wA_2, wR_1, wR_2, Nat.reduceEqDiff, Nat.reduceAdd, Nat.reduceMul, if_true, if_false, ite_true, ite_false, ii_la, ii_al, ii_lm, ii_ml, ii_add, ii_mul, ii_1, ii_le, ii_lt, ii_c1, ii_c2, ii_c3, ii_c4, ii_c5, ii_n1, ii_nn, kC0_v, kC1_v, kC2_v, kC3_v, kC0_x, kC1_x, kC2_x, not_true_eq_false, not_false_eq_true, ne_eq, hn]
    rw [if_pos (Nat.le_refl n), i2]
    rfl)
  refine e.trans ?_
  dsimp only at i ⊢
  rw [B_R_stains_29]
  simp (disch := omega) only [m_gF, m_gI, m_pI, m_gIl, m_pIl, ii_m1, ii_s1, m_pF, obs, wF_1, wF_2, wA_1, wA_2, wR_1, wR_2, Nat.reduceEqDiff, Nat.reduceAdd, Nat.reduceMul, if_true, if_false, ite_true, ite_false, ii_la, ii_al, ii_lm, ii_ml, ii_add, ii_mul, ii_1, ii_le, ii_lt, ii_c1, ii_c2, ii_c3, ii_c4, ii_c5, ii_n1, ii_nn, kC0_v, kC1_v, kC2_v, kC3_v, kC0_x, kC1_x, kC2_x, not_true_eq_false, not_false_eq_true, ne_eq, hn]
  rw [if_pos (Nat.le_refl n), i]
  unfold stV
  by_cases h0 : w = 0 <;> simp [h0]
theorem P_stains {S : pS} {L : xA} {s τ : rT} {m n q : Nat} {l : List Nat} (I : Iv S L s τ m n q l) (hd : RD s τ) (w : Int32) : Pr m_L_stains m_R_stains [.int w] S := by
  have I' := I; obtain ⟨D, A, hx, hr, ho, ⟨C, Cr, ⟨q1, q2, q3⟩, hy, hdy, hdk, xl, rl, hb1, hb2⟩, ⟨⟨tk, k1, k2, k3⟩, tb, tf, tr⟩, ⟨e48, hsc⟩, rc⟩ := I'; have C' := C; have Cr' := Cr; obtain ⟨hm, h8, hn, h6⟩ := C'; obtain ⟨hm', -, hn', -⟩ := Cr'
  have hL := (cR (d := 199) (M := m_L_stains) (as := [.ref 0, .int w, .ref 58]) (s := S)).trans (B_L_stains_0 _ _ _ _ _)
  by_cases h0_ : (0 : Int32) ≤ w ∧ w ≤ 1
  · obtain ⟨w, lw, rfl⟩ := ii_ex (n := 2) (by decide) (Int32.le_trans (show (0 : Int32) ≤ 0 by decide) h0_.1) (Int32.lt_of_le_of_lt h0_.2 (by decide))
    exact P_q I hd hL ⟨s, Kf.rf _ _ s, Y_stains 193 D C w (by omega) h0_⟩ (fun b => ⟨wF τ 0 0, e_T0 τ, rfl, by rw [e48]; exact R_stains 194 b τ Cr w (by omega) h0_⟩)
  · have ya : ∀ d, vcall (d + 4) m_Y_stains [.ref 0, .int w] (xS S L s) = xA0 S L s := fun d => by
      refine (vY D rfl).trans ((B_Y_stains_0 _ _ _ _).trans ?_)
      rw [nR_no (d + 1) D h0_]
      rfl
    have ra : ∀ d b, vcall (d + 3) m_R_stains [.ref 30, .int w] (mS b τ) = some (.inl (some (.int 0)), mS b (rN τ 1 1)) := fun d b => by
      refine (vR rfl).trans ((B_R_stains_0 _ _ _ _).trans ?_)
      simp only [m_pF, obs, rw_no (d + 1) _ h0_, rm_n1 (d + 1) (show (1 : Int32) ≠ 0 by decide), kC1_v, i10, eq_self, if_true, if_false, not_true_eq_false, not_false_eq_true]
    exact P_a (k := 1) I hd hL (fun _ _ => rfl) (by decide) (ya 195) (ra 197)
