/-! CALLS that ask: bright, empty, crowd, lead, absent, stains -/
theorem c_Y_hasBit (d : Nat) (s : pS) (x k : Int32) : call (d + 1) m_Y_hasBit [.int x, .int k] s = some (.inl (some (.int (if (x >>> (k &&& 31)) &&& 1 = 1 then 1 else 0))), s) := by
  refine cR.trans ((B_Y_hasBit_0 _ _ _ _).trans ?_)
  by_cases h : (x >>> (k &&& 31)) &&& 1 = 1 <;> simp [h]
theorem c_K_hasLine (d : Nat) {b : pS} {L : xA} {s : rT} (D : Dj L) (k : Int32) : vcall (d + 2) m_Bk_hasLine [.ref (aK L), .int k] (xS b L s) = some (.inl (some (.int (if (s.1 61 >>> (k &&& 31)) &&& 1 = 1 then 1 else 0))), xS b L s) := by
  refine (vK D rfl).trans ((B_Bk_hasLine_0 _ _ _ _).trans ?_)
  simp only [xk_gF D, obs, c_Y_hasBit d, kC1_v, bit01, if_true]
theorem fMk_ge (l : List Nat) (dk v : Nat → Int32) (p t : Nat) : 0 ≤ fMk l dk v p t := (mkv_ge _ _ _ _ _ _ _ _ _).1
theorem Y_bright (d : Nat) {b : pS} {L : xA} {s : rT} {m n : Nat} {l : List Nat} (D : Dj L) (C : Cn s m n) (xl : xLaw s l) (P : Nat → Bool) (hP : ∀ t, t < m → (((s.1 61 >>> (Int32.ofNat t &&& 31)) &&& 1 = 1) ↔ P t = false)) (p : Nat) (hp : p < n) : ∃ s', Ex0 s s' ∧ vcall (d + 6) m_Y_bright [.ref 0, .int (Int32.ofNat p)] (xS b L s) = some (.inl (some (.int (oI (am P (fMk l (s.2 12) (s.2 0) p) m)))), xS b L s') := by
  obtain ⟨hm, h8, hn, h6⟩ := C
  obtain ⟨⟨s1, x, v⟩, e, k1, i⟩ := ex_loop (F := fun k (x : rT × (Int32 × Int32) × Value) => den (d + 5) m_Y_bright 12 [.ref 0, .int (Int32.ofNat p), .int x.2.1.1, .int x.2.1.2, .int (Int32.ofNat k), x.2.2] [] (xS b L x.1)) (I := fun k x => Kf [] [22, 23] s x.1 ∧ x.2.1 = (oI (am P (fMk l (s.2 12) (s.2 0) p) k), mvI (fMk l (s.2 12) (s.2 0) p) (am P (fMk l (s.2 12) (s.2 0) p) k))) m (s, (-1, -1), mk0) ⟨Kf.rf _ _ s, rfl⟩ (fun k x hk hx => by
    obtain ⟨s1, x, v⟩ := x
    obtain ⟨k1, i⟩ := hx
    dsimp only at k1 i ⊢
    obtain ⟨s2, k2, e2⟩ := c_S_firstMark (d + 2) (b := b) (SN_p D) (k1.xlaw xl) p k (by omega) (by omega)
    rw [k1.2 12 (by decide), k1.2 0 (by decide)] at e2
    have h61 : s2.1 61 = s.1 61 := (k1.tr k2).1 61 (by decide)
    have hm1 : s1.1 44 = Int32.ofNat m := (k1.1 44 (by decide)).trans hm
    refine ⟨(s2, (oI (am P (fMk l (s.2 12) (s.2 0) p) (k + 1)), mvI (fMk l (s.2 12) (s.2 0) p) (am P (fMk l (s.2 12) (s.2 0) p) (k + 1))), .int (fMk l (s.2 12) (s.2 0) p k)), ?_, k1.tr k2, rfl⟩
    rw [am_x P _ k (fMk_ge _ _ _ _ _)]
    dsimp only
    rw [i, B_Y_bright_12]
    simp (disch := omega) only [x0_gF D, sn_gF (SN_p D), sn_gI (SN_p D), xu_gF D, xu_gI D, xk_gF D, xk_gI D, x1_gF D, pl_ix, ii_m1, ii_s1, obs, wF_1, wF_2, wA_1, wA_2, wR_1, wR_2, Nat.reduceEqDiff, Nat.reduceAdd, Nat.reduceMul, if_true, if_false, ite_true, ite_false, ii_la, ii_al, ii_lm, ii_ml, ii_add, ii_mul, ii_1, ii_le, ii_lt, ii_c1, ii_c2, ii_c3, ii_c4, ii_c5, ii_n1, ii_nn, kC0_v, kC1_v, kC2_v, kC3_v, kC0_x, kC1_x, kC2_x, not_true_eq_false, not_false_eq_true, ne_eq, hm1, e2, c_K_hasLine (d + 3) D, h61]
    rw [if_neg (by omega)]
    by_cases hb : (s.1 61 >>> (Int32.ofNat k &&& 31)) &&& 1 = 1
    · have := (hP k hk).mp hb
      simp only [hb, if_true, i10, eq_self, if_false, not_false_eq_true, this, Bool.false_eq_true]
    · have : P k = true := by cases h : P k with
        | true => rfl
        | false => exact absurd ((hP k hk).mpr h) hb
      simp only [hb, if_false, not_true_eq_false, this, if_true]
      split <;> rfl)
  refine ⟨s1, Ex0.k k1, (vY D rfl).trans ((B_Y_bright_0 _ _ _ _).trans ?_)⟩
  rw [nP_ok (d + 3) D hn (by omega) hp, kC0_v]
  refine e.trans ?_
  dsimp only at k1 i ⊢
  rw [B_Y_bright_12, i]
  have hm1 : s1.1 44 = Int32.ofNat m := (k1.1 44 (by decide)).trans hm
  simp (disch := omega) only [x0_gF D, sn_gF (SN_p D), sn_gI (SN_p D), xu_gF D, xu_gI D, xk_gF D, xk_gI D, x1_gF D, pl_ix, ii_m1, ii_s1, obs, wF_1, wF_2, wA_1, wA_2, wR_1, wR_2, Nat.reduceEqDiff, Nat.reduceAdd, Nat.reduceMul, if_true, if_false, ite_true, ite_false, ii_la, ii_al, ii_lm, ii_ml, ii_add, ii_mul, ii_1, ii_le, ii_lt, ii_c1, ii_c2, ii_c3, ii_c4, ii_c5, ii_n1, ii_nn, kC0_v, kC1_v, kC2_v, kC3_v, kC0_x, kC1_x, kC2_x, not_true_eq_false, not_false_eq_true, ne_eq, hm1]
  rw [if_pos (Nat.le_refl _)]
theorem R_bright (d : Nat) (b : pS) (τ : rT) {m n : Nat} {l : List Nat} (C : rCn τ m n) (rl : rLaw τ l) (p : Nat) (hp : p < n) : ∃ τ', Er0 τ τ' ∧ τ'.1 0 = 0 ∧ vcall (d + 6) m_R_bright [.ref 30, .int (Int32.ofNat p)] (mS b τ) = some (.inl (some (.int (oI (am (fun t => decide (τ.2 53 t = -1)) (fMk l (τ.2 37) (τ.2 48) p) m)))), mS b τ') := by
  obtain ⟨hm, h8, hn, h6⟩ := C
  obtain ⟨⟨τ1, x⟩, e, k1, i⟩ := ex_loop (F := fun k (x : rT × Int32) => den (d + 5) m_R_bright 20 [.ref 30, .int (Int32.ofNat p), .int x.2, .int (Int32.ofNat k)] [] (mS b x.1)) (I := fun k x => Kf [] [44, 45] (wF τ 0 0) x.1 ∧ x.2 = oI (am (fun t => decide (τ.2 53 t = -1)) (fMk l (τ.2 37) (τ.2 48) p) k)) m (wF τ 0 0, -1) ⟨Kf.rf _ _ _, rfl⟩ (fun k x hk hx => by
    obtain ⟨τ1, x⟩ := x
    obtain ⟨k1, i⟩ := hx
    dsimp only at k1 i ⊢
    have hm1 : τ1.1 22 = Int32.ofNat m := (k1.1 22 (by decide)).trans hm
    have e53 : τ1.2 53 = τ.2 53 := k1.2 53 (by decide)
    have e37 : τ1.2 37 = τ.2 37 := k1.2 37 (by decide)
    have e48 : τ1.2 48 = τ.2 48 := k1.2 48 (by decide)
    have rl1 := k1.law ((e_T0 τ).law rl)
    cases ea : am (fun t => decide (τ.2 53 t = -1)) (fMk l (τ.2 37) (τ.2 48) p) k with
    | none =>
      refine ⟨(τ1, oI (am (fun t => decide (τ.2 53 t = -1)) (fMk l (τ.2 37) (τ.2 48) p) (k + 1))), ?_, k1, rfl⟩
      show _ = den _ _ _ [_, _, .int (oI (match am (fun t => decide (τ.2 53 t = -1)) (fMk l (τ.2 37) (τ.2 48) p) k with | none => _ | some j => _)), _] [] _
      rw [i, ea, B_R_bright_20]
      simp (disch := omega) only [m_gF, m_gI, m_pI, m_gIl, m_pIl, ii_m1, ii_s1, m_pF, obs, wF_1, wF_2, wA_1, wA_2, wR_1, wR_2, Nat.reduceEqDiff, Nat.reduceAdd, Nat.reduceMul, if_true, if_false, ite_true, ite_false, ii_la, ii_al, ii_lm, ii_ml, ii_add, ii_mul, ii_1, ii_le, ii_lt, ii_c1, ii_c2, ii_c3, ii_c4, ii_c5, ii_n1, ii_nn, kC0_v, kC1_v, kC2_v, kC3_v, kC0_x, kC1_x, kC2_x, not_true_eq_false, not_false_eq_true, ne_eq, hm1, e53]
      rw [if_neg (by omega)]
      by_cases hb : τ.2 53 k = -1 <;> simp [hb, oI]
    | some j =>
      have hj := am_lt _ _ _ _ ea
      by_cases hb : τ.2 53 k = -1
      · obtain ⟨τ2, k2, e2⟩ := c_R_firstMark d b τ1 rl1 p k (by omega) (by omega)
        obtain ⟨τ3, k3, e3⟩ := c_R_firstMark d b τ2 (k2.law rl1) p j (by omega) (by omega)
        rw [e37, e48] at e2
        rw [k2.2 37 (by decide), k2.2 48 (by decide), e37, e48] at e3
        refine ⟨(τ3, oI (am (fun t => decide (τ.2 53 t = -1)) (fMk l (τ.2 37) (τ.2 48) p) (k + 1))), ?_, k1.tr (k2.tr k3), rfl⟩
        show _ = den _ _ _ [_, _, .int (oI (match am (fun t => decide (τ.2 53 t = -1)) (fMk l (τ.2 37) (τ.2 48) p) k with | none => _ | some j => _)), _] [] _
        rw [i, ea, B_R_bright_20]
        simp (disch := omega) only [m_gF, m_gI, m_pI, m_gIl, m_pIl, ii_m1, ii_s1, m_pF, obs, wF_1, wF_2, wA_1, wA_2, wR_1, wR_2, Nat.reduceEqDiff, Nat.reduceAdd, Nat.reduceMul, if_true, if_false, ite_true, ite_false, ii_la, ii_al, ii_lm, ii_ml, ii_add, ii_mul, ii_1, ii_le, ii_lt, ii_c1, ii_c2, ii_c3, ii_c4, ii_c5, ii_n1, ii_nn, kC0_v, kC1_v, kC2_v, kC3_v, kC0_x, kC1_x, kC2_x, not_true_eq_false, not_false_eq_true, ne_eq, hm1, e53, oI, hb, e2, e3]
        rw [if_neg (by omega)]
        by_cases h2 : fMk l (τ.2 37) (τ.2 48) p k ≤ fMk l (τ.2 37) (τ.2 48) p j
        · have h3 : ¬ fMk l (τ.2 37) (τ.2 48) p j < fMk l (τ.2 37) (τ.2 48) p k := Int32.not_lt.mpr h2
          simp [h2, h3]
        · have h3 : fMk l (τ.2 37) (τ.2 48) p j < fMk l (τ.2 37) (τ.2 48) p k := Int32.not_le.mp h2
          simp [h2, h3]
      · refine ⟨(τ1, oI (am (fun t => decide (τ.2 53 t = -1)) (fMk l (τ.2 37) (τ.2 48) p) (k + 1))), ?_, k1, rfl⟩
        show _ = den _ _ _ [_, _, .int (oI (match am (fun t => decide (τ.2 53 t = -1)) (fMk l (τ.2 37) (τ.2 48) p) k with | none => _ | some j => _)), _] [] _
        rw [i, ea, B_R_bright_20]
        simp (disch := omega) only [m_gF, m_gI, m_pI, m_gIl, m_pIl, ii_m1, ii_s1, m_pF, obs, wF_1, wF_2, wA_1, wA_2, wR_1, wR_2, Nat.reduceEqDiff, Nat.reduceAdd, Nat.reduceMul, if_true, if_false, ite_true, ite_false, ii_la, ii_al, ii_lm, ii_ml, ii_add, ii_mul, ii_1, ii_le, ii_lt, ii_c1, ii_c2, ii_c3, ii_c4, ii_c5, ii_n1, ii_nn, kC0_v, kC1_v, kC2_v, kC3_v, kC0_x, kC1_x, kC2_x, not_true_eq_false, not_false_eq_true, ne_eq, hm1, e53, oI, hb]
        rw [if_neg (by omega)]
        simp)
  refine ⟨τ1, (e_T0 τ).tr (k1.up (by decide) (by decide)), k1.1 0 (by decide), (vR rfl).trans ((B_R_bright_0 _ _ _ _).trans ?_)⟩
  simp (disch := omega) only [m_pF, obs, iP_ok (d + 3) hn (show n ≤ 8 by omega) hp, kC1_v, i10, eq_self, if_false, if_true, not_false_eq_true]
  refine e.trans ?_
  dsimp only at k1 i ⊢
  rw [B_R_bright_20, i]
  have hm1 : τ1.1 22 = Int32.ofNat m := (k1.1 22 (by decide)).trans hm
  simp (disch := omega) only [m_gF, m_gI, m_pI, m_gIl, m_pIl, ii_m1, ii_s1, m_pF, obs, wF_1, wF_2, wA_1, wA_2, wR_1, wR_2, Nat.reduceEqDiff, Nat.reduceAdd, Nat.reduceMul, if_true, if_false, ite_true, ite_false, ii_la, ii_al, ii_lm, ii_ml, ii_add, ii_mul, ii_1, ii_le, ii_lt, ii_c1, ii_c2, ii_c3, ii_c4, ii_c5, ii_n1, ii_nn, kC0_v, kC1_v, kC2_v, kC3_v, kC0_x, kC1_x, kC2_x, not_true_eq_false, not_false_eq_true, ne_eq, hm1]
  rw [if_pos (Nat.le_refl _)]
theorem bkR_P {bits am bo : Int32} {t : Nat} (h : bkR bits am bo t) : ((bits >>> (Int32.ofNat t &&& 31)) &&& 1 = 1) ↔ decide (bo = -1) = false := by
  rcases h with ⟨h1, -, h3⟩ | ⟨j, h0, h1, -, h3⟩
  · rw [h1, h3]; simp
  · rw [h1, h3]; simp [ii_n1 (a := j) (by omega)]
theorem fMk_c {l : List Nat} {dk dk' v : Nat → Int32} {p : Nat} (h : dk p = dk' p) : fMk l dk v p = fMk l dk' v p := by funext t; unfold fMk; rw [h]
theorem P_bright {S : pS} {L : xA} {s τ : rT} {m n q : Nat} {l : List Nat} (I : Iv S L s τ m n q l) (hd : RD s τ) (p : Int32) : Pr m_L_bright m_R_bright [.int p] S := by
  have I' := I; obtain ⟨D, A, hx, hr, ho, ⟨C, Cr, ⟨q1, q2, q3⟩, hy, hdy, hdk, xl, rl, hb1, hb2⟩, ⟨⟨tk, k1, k2, k3⟩, tb, tf, tr⟩, ⟨e48, hsc⟩, rc⟩ := I'; have C' := C; have Cr' := Cr; obtain ⟨hm, h8, hn, h6⟩ := C'; obtain ⟨hm', -, hn', -⟩ := Cr'
  have hL := (cR (d := 199) (M := m_L_bright) (as := [.ref 0, .int p, .ref 58]) (s := S)).trans (B_L_bright_0 _ _ _ _ _)
  by_cases h0_ : 0 ≤ p ∧ p < Int32.ofNat n
  · obtain ⟨p, lp, rfl⟩ := ii_ex (by omega) h0_.1 h0_.2
    have ev : oI (am (fun t => decide (τ.2 53 t = -1)) (fMk l (s.2 12) (s.2 0) p) m) = oI (am (fun t => decide (τ.2 53 t = -1)) (fMk l (τ.2 37) (τ.2 48) p) m) := by rw [fMk_c (hdk p lp).1, e48]
    exact P_q I hd hL (Y_bright 193 D C xl (fun t => decide (τ.2 53 t = -1)) (fun t ht => bkR_P (hb2 t (by omega))) p lp) (fun b => by rw [ev]; exact R_bright 194 b τ Cr rl p lp)
  · have ya : ∀ d, vcall (d + 4) m_Y_bright [.ref 0, .int p] (xS S L s) = xE0 S L s := fun d => by
      refine (vY D rfl).trans ((B_Y_bright_0 _ _ _ _).trans ?_)
      rw [nP_no (d + 1) D (by rw [hn]; exact h0_)]
      rfl
    have ra : ∀ d b, vcall (d + 3) m_R_bright [.ref 30, .int p] (mS b τ) = some (.inl (some (.int 0)), mS b (rN τ 1 0)) := fun d b => by
      refine (vR rfl).trans ((B_R_bright_0 _ _ _ _).trans ?_)
      simp only [m_pF, obs, iP_no d hn' (show n ≤ 8 by omega) h0_ (show (1 : Int32) ≠ 0 by decide), kC1_v, i10, eq_self, if_true, if_false, not_true_eq_false, not_false_eq_true]
    exact P_e (k := 1) I hd hL (fun _ _ => rfl) (by decide) (ya 195) (ra 197)
def emV (m n : Nat) (v : Nat → Int32) (w : Nat) : Int32 := if w = 0 then fo (fun t a => if sOn n v (Int32.ofNat t) = -1 then a ||| (1 <<< (Int32.ofNat t &&& 31)) else a) m 0 else fo (fun t a => if sAll n v t = 0 then a ||| (1 <<< (Int32.ofNat t &&& 31)) else a) m 0
theorem Y_empty (d : Nat) {b : pS} {L : xA} {s : rT} {m n : Nat} (D : Dj L) (C : Cn s m n) (w : Nat) (hw : w < 2) (h : (0 : Int32) ≤ Int32.ofNat w ∧ Int32.ofNat w ≤ 1) : vcall (d + 6) m_Y_empty [.ref 0, .int (Int32.ofNat w)] (xS b L s) = some (.inl (some (.int (emV m n (s.2 0) w))), xS b L s) := by
  have C' := C
  obtain ⟨hm, h8, hn, h6⟩ := C'
  refine (vY D rfl).trans ((B_Y_empty_0 _ _ _ _).trans ?_)
  rw [nR_ok (d + 3) D h, kC0_v]
  obtain ⟨⟨x, v⟩, e, i⟩ := ex_loop (F := fun k (x : Int32 × Value) => den (d + 5) m_Y_empty 11 [.ref 0, .int (Int32.ofNat w), .int x.1, .int (Int32.ofNat k), x.2] [] (xS b L s)) (I := fun k x => x.1 = emV k n (s.2 0) w) m (0, mk0) (by unfold emV; split <;> rfl) (fun k x hk hx => by
    obtain ⟨x, v⟩ := x
    dsimp only at hx ⊢
    have : w = 0 ∨ w = 1 := by omega
    rcases this with rfl | rfl
    · by_cases ho : sOn n (s.2 0) (Int32.ofNat k) = -1
      · refine ⟨(emV (k + 1) n (s.2 0) 0, .int 1), ?_, rfl⟩
        rw [B_Y_empty_11]
        simp (disch := omega) only [x0_gF D, sn_gF (SN_p D), sn_gI (SN_p D), xu_gF D, xu_gI D, xk_gF D, xk_gI D, x1_gF D, pl_ix, ii_m1, ii_s1, obs, wF_1, wF_2, wA_1, wA_2, wR_1, wR_2, Nat.reduceEqDiff, Nat.reduceAdd, Nat.reduceMul, if_true, if_false, ite_true, ite_false, ii_la, ii_al, ii_lm, ii_ml, ii_add, ii_mul, ii_1, ii_le, ii_lt, ii_c1, ii_c2, ii_c3, ii_c4, ii_c5, ii_n1, ii_nn, kC0_v, kC1_v, kC2_v, kC3_v, kC0_x, kC1_x, kC2_x, not_true_eq_false, not_false_eq_true, ne_eq, hm, c_S_whoIsOn (d + 4) (SN_p D) C, ho]
        rw [if_neg (by omega), B_Y_empty_62, if_neg (by decide), hx]
        show _ = den _ _ _ [_, _, .int (if sOn n (s.2 0) (Int32.ofNat k) = -1 then _ else _), _, _] [] _
        rw [if_pos ho, ii_1]; rfl
      · refine ⟨(emV (k + 1) n (s.2 0) 0, .int 0), ?_, rfl⟩
        rw [B_Y_empty_11]
        simp (disch := omega) only [x0_gF D, sn_gF (SN_p D), sn_gI (SN_p D), xu_gF D, xu_gI D, xk_gF D, xk_gI D, x1_gF D, pl_ix, ii_m1, ii_s1, obs, wF_1, wF_2, wA_1, wA_2, wR_1, wR_2, Nat.reduceEqDiff, Nat.reduceAdd, Nat.reduceMul, if_true, if_false, ite_true, ite_false, ii_la, ii_al, ii_lm, ii_ml, ii_add, ii_mul, ii_1, ii_le, ii_lt, ii_c1, ii_c2, ii_c3, ii_c4, ii_c5, ii_n1, ii_nn, kC0_v, kC1_v, kC2_v, kC3_v, kC0_x, kC1_x, kC2_x, not_true_eq_false, not_false_eq_true, ne_eq, hm, c_S_whoIsOn (d + 4) (SN_p D) C, ho]
        rw [if_neg (by omega), B_Y_empty_62, if_pos rfl, hx]
        show _ = den _ _ _ [_, _, .int (if sOn n (s.2 0) (Int32.ofNat k) = -1 then _ else _), _, _] [] _
        rw [if_neg ho, ii_1]; rfl
    · by_cases ho : sAll n (s.2 0) k = 0
      · refine ⟨(emV (k + 1) n (s.2 0) 1, .int 1), ?_, rfl⟩
        rw [B_Y_empty_11]
        simp (disch := omega) only [x0_gF D, sn_gF (SN_p D), sn_gI (SN_p D), xu_gF D, xu_gI D, xk_gF D, xk_gI D, x1_gF D, pl_ix, ii_m1, ii_s1, obs, wF_1, wF_2, wA_1, wA_2, wR_1, wR_2, Nat.reduceEqDiff, Nat.reduceAdd, Nat.reduceMul, if_true, if_false, ite_true, ite_false, ii_la, ii_al, ii_lm, ii_ml, ii_add, ii_mul, ii_1, ii_le, ii_lt, ii_c1, ii_c2, ii_c3, ii_c4, ii_c5, ii_n1, ii_nn, kC0_v, kC1_v, kC2_v, kC3_v, kC0_x, kC1_x, kC2_x, not_true_eq_false, not_false_eq_true, ne_eq, hm, c_S_onSeat (d + 2) (SN_p D) C, ho]
        rw [if_neg (by omega), B_Y_empty_62, if_neg (by decide), hx]
        show _ = den _ _ _ [_, _, .int (if sAll n (s.2 0) k = 0 then _ else _), _, _] [] _
        rw [if_pos ho, ii_1]; rfl
      · refine ⟨(emV (k + 1) n (s.2 0) 1, .int 0), ?_, rfl⟩
        rw [B_Y_empty_11]
        simp (disch := omega) only [x0_gF D, sn_gF (SN_p D), sn_gI (SN_p D), xu_gF D, xu_gI D, xk_gF D, xk_gI D, x1_gF D, pl_ix, ii_m1, ii_s1, obs, wF_1, wF_2, wA_1, wA_2, wR_1, wR_2, Nat.reduceEqDiff, Nat.reduceAdd, Nat.reduceMul, if_true, if_false, ite_true, ite_false, ii_la, ii_al, ii_lm, ii_ml, ii_add, ii_mul, ii_1, ii_le, ii_lt, ii_c1, ii_c2, ii_c3, ii_c4, ii_c5, ii_n1, ii_nn, kC0_v, kC1_v, kC2_v, kC3_v, kC0_x, kC1_x, kC2_x, not_true_eq_false, not_false_eq_true, ne_eq, hm, c_S_onSeat (d + 2) (SN_p D) C, ho]
        rw [if_neg (by omega), B_Y_empty_62, if_pos rfl, hx]
        show _ = den _ _ _ [_, _, .int (if sAll n (s.2 0) k = 0 then _ else _), _, _] [] _
        rw [if_neg ho, ii_1]; rfl)
  refine e.trans ?_
  dsimp only at i ⊢
  rw [B_Y_empty_11]
  simp (disch := omega) only [x0_gF D, sn_gF (SN_p D), sn_gI (SN_p D), xu_gF D, xu_gI D, xk_gF D, xk_gI D, x1_gF D, pl_ix, ii_m1, ii_s1, obs, wF_1, wF_2, wA_1, wA_2, wR_1, wR_2, Nat.reduceEqDiff, Nat.reduceAdd, Nat.reduceMul, if_true, if_false, ite_true, ite_false, ii_la, ii_al, ii_lm, ii_ml, ii_add, ii_mul, ii_1, ii_le, ii_lt, ii_c1, ii_c2, ii_c3, ii_c4, ii_c5, ii_n1, ii_nn, kC0_v, kC1_v, kC2_v, kC3_v, kC0_x, kC1_x, kC2_x, not_true_eq_false, not_false_eq_true, ne_eq, hm]
  rw [if_pos (Nat.le_refl m), i]
theorem R_empty (d : Nat) (b : pS) (τ : rT) {m n : Nat} (C : rCn τ m n) (w : Nat) (hw : w < 2) (h : (0 : Int32) ≤ Int32.ofNat w ∧ Int32.ofNat w ≤ 1) : vcall (d + 6) m_R_empty [.ref 30, .int (Int32.ofNat w)] (mS b τ) = some (.inl (some (.int (emV m n (τ.2 48) w))), mS b (wR (wF τ 0 0) 49 (τ.2 48))) := by
  obtain ⟨hm, h8, hn, h6⟩ := C
  have hn1 : (wR (wF τ 0 0) 49 (τ.2 48)).1 23 = Int32.ofNat n := hn
  refine (vR rfl).trans ((B_R_empty_0 _ _ _ _).trans ?_)
  simp (disch := omega) only [m_pF, obs, rw_ok (d + 4) _ h, kC1_v, kC0_v, rm_ok (d + 4), c_R_take (d + 3), i10, eq_self, if_false, if_true, not_false_eq_true, wF_2]
  obtain ⟨x, e, i⟩ := ex_loop (F := fun k (x : Int32) => den (d + 5) m_R_empty 30 [.ref 30, .int (Int32.ofNat w), .int x, .int (Int32.ofNat k)] [] (mS b (wR (wF τ 0 0) 49 (τ.2 48)))) (I := fun k x => x = emV k n (τ.2 48) w) m 0 (by unfold emV; split <;> rfl) (fun k x hk hx => by
    refine ⟨emV (k + 1) n (τ.2 48) w, ?_, rfl⟩
    rw [B_R_empty_30]
    have : w = 0 ∨ w = 1 := by omega
    rcases this with rfl | rfl
    · simp (disch := omega) only [m_gF, m_gI, m_pI, m_gIl, m_pIl, ii_m1, ii_s1, m_pF, obs, wF_1, wF_2, wA_1, wA_2, wR_1, wR_2, Nat.reduceEqDiff, Nat.reduceAdd, Nat.reduceMul, if_true, if_false, ite_true, ite_false, ii_la, ii_al, ii_lm, ii_ml, ii_add, ii_mul, ii_1, ii_le, ii_lt, ii_c1, ii_c2, ii_c3, ii_c4, ii_c5, ii_n1, ii_nn, kC0_v, kC1_v, kC2_v, kC3_v, kC0_x, kC1_x, kC2_x, not_true_eq_false, not_false_eq_true, ne_eq, hm, c_R_onSeat (d + 4) b _ n hn1 h6, Int32.or_zero]
      rw [if_neg (by omega), hx]
      show _ = den _ _ _ [_, _, .int (if sOn n (τ.2 48) (Int32.ofNat k) = -1 then _ else _), _] [] _
      by_cases ho : sOn n (τ.2 48) (Int32.ofNat k) = -1
      · simp only [ho, not_true_eq_false, if_false, if_true, B_R_empty_63, ii_1]; rfl
      · simp only [ho, not_false_eq_true, if_true, if_false]; rfl
    · simp (disch := omega) only [m_gF, m_gI, m_pI, m_gIl, m_pIl, ii_m1, ii_s1, m_pF, obs, wF_1, wF_2, wA_1, wA_2, wR_1, wR_2, Nat.reduceEqDiff, Nat.reduceAdd, Nat.reduceMul, if_true, if_false, ite_true, ite_false, ii_la, ii_al, ii_lm, ii_ml, ii_add, ii_mul, ii_1, ii_le, ii_lt, ii_c1, ii_c2, ii_c3, ii_c4, ii_c5, ii_n1, ii_nn, kC0_v, kC1_v, kC2_v, kC3_v, kC0_x, kC1_x, kC2_x, not_true_eq_false, not_false_eq_true, ne_eq, hm, c_R_allOn (d + 4) b _ n hn1 h6, Int32.or_zero]
      rw [if_neg (by omega), hx]
      show _ = den _ _ _ [_, _, .int (if sAll n (τ.2 48) k = 0 then _ else _), _] [] _
      by_cases ho : sAll n (τ.2 48) k = 0
      · simp only [ho, not_true_eq_false, if_false, if_true, B_R_empty_63, ii_1]; rfl
      · simp only [ho, not_false_eq_true, if_true, if_false]; rfl)
  refine e.trans ?_
  rw [B_R_empty_30]
  simp (disch := omega) only [m_gF, m_gI, m_pI, m_gIl, m_pIl, ii_m1, ii_s1, m_pF, obs, wF_1, wF_2, wA_1, wA_2, wR_1, wR_2, Nat.reduceEqDiff, Nat.reduceAdd, Nat.reduceMul, if_true, if_false, ite_true, ite_false, ii_la, ii_al, ii_lm, ii_ml, ii_add, ii_mul, ii_1, ii_le, ii_lt, ii_c1, ii_c2, ii_c3, ii_c4, ii_c5, ii_n1, ii_nn, kC0_v, kC1_v, kC2_v, kC3_v, kC0_x, kC1_x, kC2_x, not_true_eq_false, not_false_eq_true, ne_eq, hm]
  rw [if_pos (Nat.le_refl m), i]
theorem P_empty {S : pS} {L : xA} {s τ : rT} {m n q : Nat} {l : List Nat} (I : Iv S L s τ m n q l) (hd : RD s τ) (w : Int32) : Pr m_L_empty m_R_empty [.int w] S := by
  have I' := I; obtain ⟨D, A, hx, hr, ho, ⟨C, Cr, ⟨q1, q2, q3⟩, hy, hdy, hdk, xl, rl, hb1, hb2⟩, ⟨⟨tk, k1, k2, k3⟩, tb, tf, tr⟩, ⟨e48, hsc⟩, rc⟩ := I'; have C' := C; have Cr' := Cr; obtain ⟨hm, h8, hn, h6⟩ := C'; obtain ⟨hm', -, hn', -⟩ := Cr'
  have hL := (cR (d := 199) (M := m_L_empty) (as := [.ref 0, .int w, .ref 58]) (s := S)).trans (B_L_empty_0 _ _ _ _ _)
  by_cases h0_ : (0 : Int32) ≤ w ∧ w ≤ 1
  · obtain ⟨w, lw, rfl⟩ := ii_ex (n := 2) (by decide) (Int32.le_trans (show (0 : Int32) ≤ 0 by decide) h0_.1) (Int32.lt_of_le_of_lt h0_.2 (by decide))
    exact P_q I hd hL ⟨s, Kf.rf _ _ s, Y_empty 193 D C w (by omega) h0_⟩ (fun b => ⟨wR (wF τ 0 0) 49 (τ.2 48), e_T1 τ, rfl, by rw [e48]; exact R_empty 194 b τ Cr w (by omega) h0_⟩)
  · have ya : ∀ d, vcall (d + 4) m_Y_empty [.ref 0, .int w] (xS S L s) = xA0 S L s := fun d => by
      refine (vY D rfl).trans ((B_Y_empty_0 _ _ _ _).trans ?_)
      rw [nR_no (d + 1) D h0_]
      rfl
    have ra : ∀ d b, vcall (d + 3) m_R_empty [.ref 30, .int w] (mS b τ) = some (.inl (some (.int 0)), mS b (rN τ 1 1)) := fun d b => by
      refine (vR rfl).trans ((B_R_empty_0 _ _ _ _).trans ?_)
      simp only [m_pF, obs, rw_no (d + 1) _ h0_, rm_n1 (d + 1) (show (1 : Int32) ≠ 0 by decide), kC1_v, i10, eq_self, if_true, if_false, not_true_eq_false, not_false_eq_true]
    exact P_a (k := 1) I hd hL (fun _ _ => rfl) (by decide) (ya 195) (ra 197)
def crV (n : Nat) (v : Nat → Int32) (t : Nat) : Int32 := fo (fun p a => if v (26 + 6 * t + p) ≤ 0 then a else a + 1) n 0
theorem Y_crowd (d : Nat) {b : pS} {L : xA} {s : rT} {m n : Nat} (D : Dj L) (C : Cn s m n) (t : Nat) (ht : t < m) : vcall (d + 6) m_Y_crowd [.ref 0, .int (Int32.ofNat t)] (xS b L s) = some (.inl (some (.int (crV n (s.2 0) t))), xS b L s) := by
  obtain ⟨hm, h8, hn, h6⟩ := C
  refine (vY D rfl).trans ((B_Y_crowd_0 _ _ _ _).trans ?_)
  rw [nS_ok (d + 3) D hm h8 ht, kC0_v]
  refine (fo_loop (F := fun k a => den (d + 5) m_Y_crowd 9 [.ref 0, .int (Int32.ofNat t), .int a, .int (Int32.ofNat k)] [] (xS b L s)) (f := fun p a => if s.2 0 (26 + 6 * t + p) ≤ 0 then a else a + 1) n (fun k a hk => ?_) 0).trans ?_
  · rw [B_Y_crowd_9]
    simp (disch := omega) only [x0_gF D, sn_gF (SN_p D), sn_gI (SN_p D), xu_gF D, xu_gI D, xk_gF D, xk_gI D, x1_gF D, pl_ix, ii_m1, ii_s1, obs, wF_1, wF_2, wA_1, wA_2, wR_1, wR_2, Nat.reduceEqDiff, Nat.reduceAdd, Nat.reduceMul, if_true, if_false, ite_true, ite_false, ii_la, ii_al, ii_lm, ii_ml, ii_add, ii_mul, ii_1, ii_le, ii_lt, ii_c1, ii_c2, ii_c3, ii_c4, ii_c5, ii_n1, ii_nn, kC0_v, kC1_v, kC2_v, kC3_v, kC0_x, kC1_x, kC2_x, not_true_eq_false, not_false_eq_true, ne_eq, hn, c_S_amount (d + 3) (SN_p D)]
    rw [if_neg (by omega)]
    split <;> rfl
  · rw [B_Y_crowd_9]
    simp (disch := omega) only [x0_gF D, sn_gF (SN_p D), sn_gI (SN_p D), xu_gF D, xu_gI D, xk_gF D, xk_gI D, x1_gF D, pl_ix, ii_m1, ii_s1, obs, wF_1, wF_2, wA_1, wA_2, wR_1, wR_2, Nat.reduceEqDiff, Nat.reduceAdd, Nat.reduceMul, if_true, if_false, ite_true, ite_false, ii_la, ii_al, ii_lm, ii_ml, ii_add, ii_mul, ii_1, ii_le, ii_lt, ii_c1, ii_c2, ii_c3, ii_c4, ii_c5, ii_n1, ii_nn, kC0_v, kC1_v, kC2_v, kC3_v, kC0_x, kC1_x, kC2_x, not_true_eq_false, not_false_eq_true, ne_eq, hn]
    rw [if_pos (Nat.le_refl n)]; rfl
theorem R_crowd (d : Nat) (b : pS) (τ : rT) {m n : Nat} (C : rCn τ m n) (t : Nat) (ht : t < m) : vcall (d + 6) m_R_crowd [.ref 30, .int (Int32.ofNat t)] (mS b τ) = some (.inl (some (.int (crV n (τ.2 48) t))), mS b (wF τ 0 0)) := by
  obtain ⟨hm, h8, hn, h6⟩ := C
  refine (vR rfl).trans ((B_R_crowd_0 _ _ _ _).trans ?_)
  simp (disch := omega) only [m_pF, obs, iS_ok (d + 3) hm h8 ht, kC1_v, i10, eq_self, if_false, if_true, not_false_eq_true]
  refine (fo_loop (F := fun k a => den (d + 5) m_R_crowd 20 [.ref 30, .int (Int32.ofNat t), .int a, .int (Int32.ofNat k)] [] (mS b (wF τ 0 0))) (f := fun p a => if τ.2 48 (26 + 6 * t + p) ≤ 0 then a else a + 1) n (fun k a hk => ?_) 0).trans ?_
  · rw [B_R_crowd_20]
    simp (disch := omega) only [m_gF, m_gI, m_pI, m_gIl, m_pIl, ii_m1, ii_s1, m_pF, obs, wF_1, wF_2, wA_1, wA_2, wR_1, wR_2, Nat.reduceEqDiff, Nat.reduceAdd, Nat.reduceMul, if_true, if_false, ite_true, ite_false, ii_la, ii_al, ii_lm, ii_ml, ii_add, ii_mul, ii_1, ii_le, ii_lt, ii_c1, ii_c2, ii_c3, ii_c4, ii_c5, ii_n1, ii_nn, kC0_v, kC1_v, kC2_v, kC3_v, kC0_x, kC1_x, kC2_x, not_true_eq_false, not_false_eq_true, ne_eq, hn, Int32.add_zero]
    rw [if_neg (by omega)]
    split <;> rfl
  · rw [B_R_crowd_20]
    simp (disch := omega) only [m_gF, m_gI, m_pI, m_gIl, m_pIl, ii_m1, ii_s1, m_pF, obs, wF_1, wF_2, wA_1, wA_2, wR_1, wR_2, Nat.reduceEqDiff, Nat.reduceAdd, Nat.reduceMul, if_true, if_false, ite_true, ite_false, ii_la, ii_al, ii_lm, ii_ml, ii_add, ii_mul, ii_1, ii_le, ii_lt, ii_c1, ii_c2, ii_c3, ii_c4, ii_c5, ii_n1, ii_nn, kC0_v, kC1_v, kC2_v, kC3_v, kC0_x, kC1_x, kC2_x, not_true_eq_false, not_false_eq_true, ne_eq, hn]
    rw [if_pos (Nat.le_refl n)]; rfl
theorem P_crowd {S : pS} {L : xA} {s τ : rT} {m n q : Nat} {l : List Nat} (I : Iv S L s τ m n q l) (hd : RD s τ) (t : Int32) : Pr m_L_crowd m_R_crowd [.int t] S := by
  have I' := I; obtain ⟨D, A, hx, hr, ho, ⟨C, Cr, ⟨q1, q2, q3⟩, hy, hdy, hdk, xl, rl, hb1, hb2⟩, ⟨⟨tk, k1, k2, k3⟩, tb, tf, tr⟩, ⟨e48, hsc⟩, rc⟩ := I'; have C' := C; have Cr' := Cr; obtain ⟨hm, h8, hn, h6⟩ := C'; obtain ⟨hm', -, hn', -⟩ := Cr'
  have hL := (cR (d := 199) (M := m_L_crowd) (as := [.ref 0, .int t, .ref 58]) (s := S)).trans (B_L_crowd_0 _ _ _ _ _)
  by_cases h0_ : 0 ≤ t ∧ t < Int32.ofNat m
  · obtain ⟨t, lt, rfl⟩ := ii_ex (by omega) h0_.1 h0_.2
    exact P_q I hd hL ⟨s, Kf.rf _ _ s, Y_crowd 193 D C t lt⟩ (fun b => ⟨wF τ 0 0, e_T0 τ, rfl, by rw [e48]; exact R_crowd 194 b τ Cr t lt⟩)
  · have ya : ∀ d, vcall (d + 4) m_Y_crowd [.ref 0, .int t] (xS S L s) = xE0 S L s := fun d => by
      refine (vY D rfl).trans ((B_Y_crowd_0 _ _ _ _).trans ?_)
      rw [nS_no (d + 1) D (by rw [hm]; exact h0_)]
      rfl
    have ra : ∀ d b, vcall (d + 3) m_R_crowd [.ref 30, .int t] (mS b τ) = some (.inl (some (.int 0)), mS b (rN τ 1 0)) := fun d b => by
      refine (vR rfl).trans ((B_R_crowd_0 _ _ _ _).trans ?_)
      simp only [m_pF, obs, iS_no d hm' h8 h0_ (show (1 : Int32) ≠ 0 by decide), kC1_v, i10, eq_self, if_true, if_false, not_true_eq_false, not_false_eq_true]
    exact P_e (k := 1) I hd hL (fun _ _ => rfl) (by decide) (ya 195) (ra 197)
def ldF (v : Nat → Int32) (t p : Nat) (x : Int32 × Int32) : Int32 × Int32 := (if x.1 < v (26 + 6 * t + p) then v (26 + 6 * t + p) else x.1, if x.2 < (if v (26 + 6 * t + p) < x.1 then v (26 + 6 * t + p) else x.1) then (if v (26 + 6 * t + p) < x.1 then v (26 + 6 * t + p) else x.1) else x.2)
def ldV (n : Nat) (v : Nat → Int32) (t : Nat) : Int32 := (fo (ldF v t) n (0, 0)).1 - (fo (ldF v t) n (0, 0)).2
theorem Y_lead (d : Nat) {b : pS} {L : xA} {s : rT} {m n : Nat} (D : Dj L) (C : Cn s m n) (t : Nat) (ht : t < m) : vcall (d + 6) m_Y_lead [.ref 0, .int (Int32.ofNat t)] (xS b L s) = some (.inl (some (.int (ldV n (s.2 0) t))), xS b L s) := by
  obtain ⟨hm, h8, hn, h6⟩ := C
  refine (vY D rfl).trans ((B_Y_lead_0 _ _ _ _).trans ?_)
  rw [nS_ok (d + 3) D hm h8 ht, kC0_v]
  obtain ⟨⟨x, v⟩, e, i⟩ := ex_loop (F := fun k (x : (Int32 × Int32) × Value) => den (d + 5) m_Y_lead 12 [.ref 0, .int (Int32.ofNat t), .int x.1.1, .int x.1.2, .int (Int32.ofNat k), x.2] [] (xS b L s)) (I := fun k x => x.1 = fo (ldF (s.2 0) t) k (0, 0)) n ((0, 0), mk0) rfl (fun k x hk hx => by
    refine ⟨(ldF (s.2 0) t k x.1, .int (s.2 0 (26 + 6 * t + k))), ?_, congrArg (ldF (s.2 0) t k) hx⟩
    dsimp only
    rw [B_Y_lead_12]
    simp (disch := omega) only [x0_gF D, sn_gF (SN_p D), sn_gI (SN_p D), xu_gF D, xu_gI D, xk_gF D, xk_gI D, x1_gF D, pl_ix, ii_m1, ii_s1, obs, wF_1, wF_2, wA_1, wA_2, wR_1, wR_2, Nat.reduceEqDiff, Nat.reduceAdd, Nat.reduceMul, if_true, if_false, ite_true, ite_false, ii_la, ii_al, ii_lm, ii_ml, ii_add, ii_mul, ii_1, ii_le, ii_lt, ii_c1, ii_c2, ii_c3, ii_c4, ii_c5, ii_n1, ii_nn, kC0_v, kC1_v, kC2_v, kC3_v, kC0_x, kC1_x, kC2_x, not_true_eq_false, not_false_eq_true, ne_eq, hn, c_S_amount (d + 3) (SN_p D)]
    rw [if_neg (by omega)]
    rfl)
  refine e.trans ?_
  dsimp only at i ⊢
  rw [B_Y_lead_12]
  simp (disch := omega) only [x0_gF D, sn_gF (SN_p D), sn_gI (SN_p D), xu_gF D, xu_gI D, xk_gF D, xk_gI D, x1_gF D, pl_ix, ii_m1, ii_s1, obs, wF_1, wF_2, wA_1, wA_2, wR_1, wR_2, Nat.reduceEqDiff, Nat.reduceAdd, Nat.reduceMul, if_true, if_false, ite_true, ite_false, ii_la, ii_al, ii_lm, ii_ml, ii_add, ii_mul, ii_1, ii_le, ii_lt, ii_c1, ii_c2, ii_c3, ii_c4, ii_c5, ii_n1, ii_nn, kC0_v, kC1_v, kC2_v, kC3_v, kC0_x, kC1_x, kC2_x, not_true_eq_false, not_false_eq_true, ne_eq, hn]
  rw [if_pos (Nat.le_refl n), i]
  rfl
theorem ldF_r {v : Nat → Int32} {t p : Nat} {x : Int32 × Int32} (h : x.2 ≤ x.1) : ldF v t p x = (if v (26 + 6 * t + p) ≤ x.1 then x.1 else v (26 + 6 * t + p), if v (26 + 6 * t + p) ≤ x.1 then (if v (26 + 6 * t + p) ≤ x.2 then x.2 else v (26 + 6 * t + p)) else x.1) ∧ (ldF v t p x).2 ≤ (ldF v t p x).1 := by
  unfold ldF
  dsimp only
  generalize v (26 + 6 * t + p) = y
  by_cases h1 : y ≤ x.1
  · have h2 : ¬ x.1 < y := Int32.not_lt.mpr h1
    have h3 : (if y < x.1 then y else x.1) = y := by
      by_cases h4 : y < x.1
      · rw [if_pos h4]
      · rw [if_neg h4]; exact Int32.le_antisymm (Int32.not_lt.mp h4) h1
    rw [if_neg h2, h3, if_pos h1, if_pos h1]
    by_cases h5 : y ≤ x.2
    · rw [if_neg (Int32.not_lt.mpr h5), if_pos h5]; exact ⟨rfl, h⟩
    · rw [if_pos (Int32.not_le.mp h5), if_neg h5]; exact ⟨rfl, h1⟩
  · have h2 : x.1 < y := Int32.not_le.mp h1
    have h3 : ¬ y < x.1 := Int32.not_lt.mpr (Int32.le_of_lt h2)
    rw [if_pos h2, if_neg h3, if_neg h1, if_neg h1]
    by_cases h5 : x.2 < x.1
    · rw [if_pos h5]; exact ⟨rfl, Int32.le_of_lt h2⟩
    · rw [if_neg h5]
      have : x.2 = x.1 := Int32.le_antisymm h (Int32.not_lt.mp h5)
      rw [this]; exact ⟨rfl, Int32.le_of_lt h2⟩
theorem R_lead (d : Nat) (b : pS) (τ : rT) {m n : Nat} (C : rCn τ m n) (t : Nat) (ht : t < m) : vcall (d + 6) m_R_lead [.ref 30, .int (Int32.ofNat t)] (mS b τ) = some (.inl (some (.int (ldV n (τ.2 48) t))), mS b (wF τ 0 0)) := by
  obtain ⟨hm, h8, hn, h6⟩ := C
  refine (vR rfl).trans ((B_R_lead_0 _ _ _ _).trans ?_)
  simp (disch := omega) only [m_pF, obs, iS_ok (d + 3) hm h8 ht, kC1_v, i10, eq_self, if_false, if_true, not_false_eq_true]
  obtain ⟨⟨x, v⟩, e, i, -⟩ := ex_loop (F := fun k (x : (Int32 × Int32) × Value) => den (d + 5) m_R_lead 23 [.ref 30, .int (Int32.ofNat t), .int x.1.1, .int x.1.2, .int (Int32.ofNat k), x.2] [] (mS b (wF τ 0 0))) (I := fun k x => x.1 = fo (ldF (τ.2 48) t) k (0, 0) ∧ x.1.2 ≤ x.1.1) n ((0, 0), mk0) ⟨rfl, by decide⟩ (fun k x hk hx => by
    obtain ⟨e1, e2⟩ := ldF_r (v := τ.2 48) (t := t) (p := k) hx.2
    refine ⟨(ldF (τ.2 48) t k x.1, .int (τ.2 48 (26 + 6 * t + k))), ?_, congrArg (ldF (τ.2 48) t k) hx.1, e2⟩
    dsimp only
    rw [e1, B_R_lead_23]
    simp (disch := omega) only [m_gF, m_gI, m_pI, m_gIl, m_pIl, ii_m1, ii_s1, m_pF, obs, wF_1, wF_2, wA_1, wA_2, wR_1, wR_2, Nat.reduceEqDiff, Nat.reduceAdd, Nat.reduceMul, if_true, if_false, ite_true, ite_false, ii_la, ii_al, ii_lm, ii_ml, ii_add, ii_mul, ii_1, ii_le, ii_lt, ii_c1, ii_c2, ii_c3, ii_c4, ii_c5, ii_n1, ii_nn, kC0_v, kC1_v, kC2_v, kC3_v, kC0_x, kC1_x, kC2_x, not_true_eq_false, not_false_eq_true, ne_eq, hn, B_R_lead_71]
    rw [if_neg (by omega)]
    by_cases h1 : τ.2 48 (26 + 6 * t + k) ≤ x.1.1
    · by_cases h2 : τ.2 48 (26 + 6 * t + k) ≤ x.1.2 <;> simp only [h1, h2, if_true, if_false]
    · simp only [h1, if_false])
  refine e.trans ?_
  dsimp only at i ⊢
  rw [B_R_lead_23]
  simp (disch := omega) only [m_gF, m_gI, m_pI, m_gIl, m_pIl, ii_m1, ii_s1, m_pF, obs, wF_1, wF_2, wA_1, wA_2, wR_1, wR_2, Nat.reduceEqDiff, Nat.reduceAdd, Nat.reduceMul, if_true, if_false, ite_true, ite_false, ii_la, ii_al, ii_lm, ii_ml, ii_add, ii_mul, ii_1, ii_le, ii_lt, ii_c1, ii_c2, ii_c3, ii_c4, ii_c5, ii_n1, ii_nn, kC0_v, kC1_v, kC2_v, kC3_v, kC0_x, kC1_x, kC2_x, not_true_eq_false, not_false_eq_true, ne_eq, hn]
  rw [if_pos (Nat.le_refl n), i]
  rfl
theorem P_lead {S : pS} {L : xA} {s τ : rT} {m n q : Nat} {l : List Nat} (I : Iv S L s τ m n q l) (hd : RD s τ) (t : Int32) : Pr m_L_lead m_R_lead [.int t] S := by
  have I' := I; obtain ⟨D, A, hx, hr, ho, ⟨C, Cr, ⟨q1, q2, q3⟩, hy, hdy, hdk, xl, rl, hb1, hb2⟩, ⟨⟨tk, k1, k2, k3⟩, tb, tf, tr⟩, ⟨e48, hsc⟩, rc⟩ := I'; have C' := C; have Cr' := Cr; obtain ⟨hm, h8, hn, h6⟩ := C'; obtain ⟨hm', -, hn', -⟩ := Cr'
  have hL := (cR (d := 199) (M := m_L_lead) (as := [.ref 0, .int t, .ref 58]) (s := S)).trans (B_L_lead_0 _ _ _ _ _)
  by_cases h0_ : 0 ≤ t ∧ t < Int32.ofNat m
  · obtain ⟨t, lt, rfl⟩ := ii_ex (by omega) h0_.1 h0_.2
    exact P_q I hd hL ⟨s, Kf.rf _ _ s, Y_lead 193 D C t lt⟩ (fun b => ⟨wF τ 0 0, e_T0 τ, rfl, by rw [e48]; exact R_lead 194 b τ Cr t lt⟩)
  · have ya : ∀ d, vcall (d + 4) m_Y_lead [.ref 0, .int t] (xS S L s) = xE0 S L s := fun d => by
      refine (vY D rfl).trans ((B_Y_lead_0 _ _ _ _).trans ?_)
      rw [nS_no (d + 1) D (by rw [hm]; exact h0_)]
      rfl
    have ra : ∀ d b, vcall (d + 3) m_R_lead [.ref 30, .int t] (mS b τ) = some (.inl (some (.int 0)), mS b (rN τ 1 0)) := fun d b => by
      refine (vR rfl).trans ((B_R_lead_0 _ _ _ _).trans ?_)
      simp only [m_pF, obs, iS_no d hm' h8 h0_ (show (1 : Int32) ≠ 0 by decide), kC1_v, i10, eq_self, if_true, if_false, not_true_eq_false, not_false_eq_true]
    exact P_e (k := 1) I hd hL (fun _ _ => rfl) (by decide) (ya 195) (ra 197)
/-- which bits a row of bits has -/
theorem bit_1 : ∀ k : Fin 8, ∀ i : Fin 32, ((1 : Int32) <<< (Int32.ofNat k.val &&& 31)).toBitVec.getLsbD i.val = decide (i.val = k.val) := by decide +kernel
theorem bit_k {k : Nat} (hk : k < 8) (i : Nat) : ((1 : Int32) <<< (Int32.ofNat k &&& 31)).toBitVec.getLsbD i = decide (i = k) := by
  by_cases h : i < 32
  · exact bit_1 ⟨k, hk⟩ ⟨i, h⟩
  · rw [BitVec.getLsbD_of_ge _ _ (by omega)]; exact (decide_eq_false (by omega)).symm
theorem sel_bit (P : Nat → Prop) [DecidablePred P] (m : Nat) (h8 : m ≤ 8) (i : Nat) : (fo (fun t c => if P t then c ||| ((1 : Int32) <<< (Int32.ofNat t &&& 31)) else c) m 0).toBitVec.getLsbD i = (decide (i < m) && decide (P i)) := by
  induction m with
  | zero => show (0 : Int32).toBitVec.getLsbD i = _; simp
  | succ m ih =>
    show (if P m then _ ||| _ else _ : Int32).toBitVec.getLsbD i = _
    by_cases hP : P m
    · rw [if_pos hP, Int32.toBitVec_or, BitVec.getLsbD_or, ih (by omega), bit_k (by omega)]
      by_cases h1 : i = m
      · subst h1; simp [hP]
      · have h2 : (i < m + 1) = (i < m) := propext (by omega)
        simp [h1, h2]
    · rw [if_neg hP, ih (by omega)]
      by_cases h1 : i = m
      · subst h1; simp [hP]
      · have h2 : (i < m + 1) = (i < m) := propext (by omega)
        simp [h2]
theorem bit_0 {x : Int32} (h : ∀ i, x.toBitVec.getLsbD i = false) : x = 0 := by
  apply Int32.toBitVec_inj.mp
  apply BitVec.eq_of_getLsbD_eq
  intro i hi
  rw [h i]
  show false = (0 : Int32).toBitVec.getLsbD i
  simp
theorem selves_0 {m : Nat} (h8 : m ≤ 8) (v : Nat → Int32) (p : Nat) : sSelves m v p = 0 ↔ ∀ t, t < m → ¬ 0 < v (26 + 6 * t + p) := by
  have hb := sel_bit (fun t => 0 < v (26 + 6 * t + p)) m h8
  constructor
  · intro h t ht hv
    have := hb t
    rw [show fo _ m 0 = sSelves m v p from rfl, h] at this
    simp [ht, hv] at this
  · intro h
    refine bit_0 (fun i => (hb i).trans ?_)
    by_cases hi : i < m
    · simp [hi, h i hi]
    · simp [hi]
theorem selves_and {m : Nat} (h8 : m ≤ 8) (v : Nat → Int32) (p r : Nat) : sSelves m v p &&& sSelves m v r = 0 ↔ ∀ t, t < m → ¬ (0 < v (26 + 6 * t + p) ∧ 0 < v (26 + 6 * t + r)) := by
  have hb := sel_bit (fun t => 0 < v (26 + 6 * t + p)) m h8
  have hc := sel_bit (fun t => 0 < v (26 + 6 * t + r)) m h8
  constructor
  · intro h t ht hv
    have e : (sSelves m v p &&& sSelves m v r).toBitVec.getLsbD t = false := by rw [h]; simp
    rw [Int32.toBitVec_and, BitVec.getLsbD_and, show (sSelves m v p).toBitVec.getLsbD t = _ from hb t, show (sSelves m v r).toBitVec.getLsbD t = _ from hc t] at e
    simp [ht, hv.1, hv.2] at e
  · intro h
    refine bit_0 (fun i => ?_)
    rw [Int32.toBitVec_and, BitVec.getLsbD_and, show (sSelves m v p).toBitVec.getLsbD i = _ from hb i, show (sSelves m v r).toBitVec.getLsbD i = _ from hc i]
    by_cases hi : i < m
    · by_cases h1 : 0 < v (26 + 6 * i + p)
      · have := h i hi
        simp [h1] at this
        simp [hi, h1, this]
      · simp [h1]
    · simp [hi]
theorem allOf_n {m p : Nat} (h8 : m ≤ 8) {v : Nat → Int32} (h : ∀ t, t < 8 → ∃ j, j ≤ 9999 ∧ v (26 + 6 * t + p) = Int32.ofNat j) : ∃ k, k ≤ 9999 * m ∧ sAllOf m v p = Int32.ofNat k ∧ (k = 0 ↔ ∀ t, t < m → ¬ 0 < v (26 + 6 * t + p)) := by
  induction m with
  | zero => exact ⟨0, by omega, rfl, by simp⟩
  | succ m ih =>
    obtain ⟨k, k1, k2, k3⟩ := ih (by omega)
    obtain ⟨j, j1, j2⟩ := h m (by omega)
    refine ⟨k + j, by omega, ?_, ?_⟩
    · show sAllOf m v p + v (26 + 6 * m + p) = _
      rw [k2, j2, ii_add]
    · have hj : (j = 0) ↔ ¬ 0 < v (26 + 6 * m + p) := by
        rw [j2]; simp (disch := omega) only [ii_m1, ii_s1, obs, wF_1, wF_2, wA_1, wA_2, wR_1, wR_2, Nat.reduceEqDiff, Nat.reduceAdd, Nat.reduceMul, if_true, if_false, ite_true, ite_false, ii_la, ii_al, ii_lm, ii_ml, ii_add, ii_mul, ii_1, ii_le, ii_lt, ii_c1, ii_c2, ii_c3, ii_c4, ii_c5, ii_n1, ii_nn, kC0_v, kC1_v, kC2_v, kC3_v, kC0_x, kC1_x, kC2_x, not_true_eq_false, not_false_eq_true, ne_eq]; omega
      constructor
      · intro e t ht
        by_cases e1 : t = m
        · subst e1; exact hj.mp (by omega)
        · exact k3.mp (by omega) t (by omega)
      · intro e
        have a1 := k3.mpr (fun t ht => e t (by omega))
        have a2 := hj.mpr (e m (by omega))
        omega
theorem abs_e {m p : Nat} (h8 : m ≤ 8) {v : Nat → Int32} (h : ∀ t, t < 8 → ∃ j, j ≤ 9999 ∧ v (26 + 6 * t + p) = Int32.ofNat j) : (sAllOf m v p = 0) = (sSelves m v p = 0) := by
  obtain ⟨k, k1, k2, k3⟩ := allOf_n h8 h
  apply propext
  rw [selves_0 h8, ← k3, k2]
  simp (disch := omega) only [ii_m1, ii_s1, obs, wF_1, wF_2, wA_1, wA_2, wR_1, wR_2, Nat.reduceEqDiff, Nat.reduceAdd, Nat.reduceMul, if_true, if_false, ite_true, ite_false, ii_la, ii_al, ii_lm, ii_ml, ii_add, ii_mul, ii_1, ii_le, ii_lt, ii_c1, ii_c2, ii_c3, ii_c4, ii_c5, ii_n1, ii_nn, kC0_v, kC1_v, kC2_v, kC3_v, kC0_x, kC1_x, kC2_x, not_true_eq_false, not_false_eq_true, ne_eq]
def abV (m n : Nat) (v : Nat → Int32) : Int32 := fo (fun p a => if sSelves m v p = 0 then a ||| (1 <<< (Int32.ofNat p &&& 31)) else a) n 0
theorem Y_absent (d : Nat) {b : pS} {L : xA} {s : rT} {m n : Nat} (D : Dj L) (C : Cn s m n) : vcall (d + 6) m_Y_absent [.ref 0] (xS b L s) = some (.inl (some (.int (abV m n (s.2 0)))), xS b L s) := by
  have C' := C
  obtain ⟨hm, h8, hn, h6⟩ := C'
  refine (vY D rfl).trans ((B_Y_absent_0 _ _ _).trans ?_)
  refine (fo_loop (F := fun k a => den (d + 5) m_Y_absent 4 [.ref 0, .int a, .int (Int32.ofNat k)] [] (xS b L s)) (f := fun p a => if sSelves m (s.2 0) p = 0 then a ||| (1 <<< (Int32.ofNat p &&& 31)) else a) n (fun k a hk => ?_) 0).trans ?_
  · rw [B_Y_absent_4]
    simp (disch := omega) only [x0_gF D, sn_gF (SN_p D), sn_gI (SN_p D), xu_gF D, xu_gI D, xk_gF D, xk_gI D, x1_gF D, pl_ix, ii_m1, ii_s1, obs, wF_1, wF_2, wA_1, wA_2, wR_1, wR_2, Nat.reduceEqDiff, Nat.reduceAdd, Nat.reduceMul, if_true, if_false, ite_true, ite_false, ii_la, ii_al, ii_lm, ii_ml, ii_add, ii_mul, ii_1, ii_le, ii_lt, ii_c1, ii_c2, ii_c3, ii_c4, ii_c5, ii_n1, ii_nn, kC0_v, kC1_v, kC2_v, kC3_v, kC0_x, kC1_x, kC2_x, not_true_eq_false, not_false_eq_true, ne_eq, hn, c_S_selvesOf (d + 2) (SN_p D) C]
    rw [if_neg (by omega)]
    by_cases h : sSelves m (s.2 0) k = 0 <;> simp [h]
  · rw [B_Y_absent_4]
    simp (disch := omega) only [x0_gF D, sn_gF (SN_p D), sn_gI (SN_p D), xu_gF D, xu_gI D, xk_gF D, xk_gI D, x1_gF D, pl_ix, ii_m1, ii_s1, obs, wF_1, wF_2, wA_1, wA_2, wR_1, wR_2, Nat.reduceEqDiff, Nat.reduceAdd, Nat.reduceMul, if_true, if_false, ite_true, ite_false, ii_la, ii_al, ii_lm, ii_ml, ii_add, ii_mul, ii_1, ii_le, ii_lt, ii_c1, ii_c2, ii_c3, ii_c4, ii_c5, ii_n1, ii_nn, kC0_v, kC1_v, kC2_v, kC3_v, kC0_x, kC1_x, kC2_x, not_true_eq_false, not_false_eq_true, ne_eq, hn]
    rw [if_pos (Nat.le_refl n)]; rfl
theorem R_absent (d : Nat) (b : pS) (τ : rT) {m n : Nat} (C : rCn τ m n) (hp : ∀ t p, t < 8 → p < 6 → ∃ j, j ≤ 9999 ∧ τ.2 48 (26 + 6 * t + p) = Int32.ofNat j) : vcall (d + 6) m_R_absent [.ref 30] (mS b τ) = some (.inl (some (.int (abV m n (τ.2 48)))), mS b (wR (wF τ 0 0) 49 (τ.2 48))) := by
  have C1 : rCn (wR (wF τ 0 0) 49 (τ.2 48)) m n := C
  obtain ⟨hm, h8, hn, h6⟩ := C
  refine (vR rfl).trans ((B_R_absent_0 _ _ _).trans ?_)
  simp (disch := omega) only [m_pF, obs, kC0_v, c_R_take (d + 3), wF_2]
  refine (fo_loop (F := fun k a => den (d + 5) m_R_absent 13 [.ref 30, .int a, .int (Int32.ofNat k)] [] (mS b (wR (wF τ 0 0) 49 (τ.2 48)))) (f := fun p a => if sSelves m (τ.2 48) p = 0 then a ||| (1 <<< (Int32.ofNat p &&& 31)) else a) n (fun k a hk => ?_) 0).trans ?_
  · rw [B_R_absent_13]
    have e7 := c_R_ofHim (d + 2) b (wR (wF τ 0 0) 49 (τ.2 48)) C1 k (by omega) 7 (Or.inr (Or.inr rfl))
    have e7' : vcall (d + 5) m_R_ofHim [.ref 30, .int (Int32.ofNat k), .int 7] (mS b (wR (wF τ 0 0) 49 (τ.2 48))) = some (.inl (some (.int (sAllOf m (τ.2 48) k))), mS b (wR (wF τ 0 0) 49 (τ.2 48))) := e7
    simp (disch := omega) only [m_gF, m_gI, m_pI, m_gIl, m_pIl, ii_m1, ii_s1, m_pF, obs, wF_1, wF_2, wA_1, wA_2, wR_1, wR_2, Nat.reduceEqDiff, Nat.reduceAdd, Nat.reduceMul, if_true, if_false, ite_true, ite_false, ii_la, ii_al, ii_lm, ii_ml, ii_add, ii_mul, ii_1, ii_le, ii_lt, ii_c1, ii_c2, ii_c3, ii_c4, ii_c5, ii_n1, ii_nn, kC0_v, kC1_v, kC2_v, kC3_v, kC0_x, kC1_x, kC2_x, not_true_eq_false, not_false_eq_true, ne_eq, hn, e7', Int32.or_zero]
    rw [if_neg (by omega)]
    have ee := abs_e (p := k) h8 (fun t ht => hp t k ht (by omega))
    simp only [ee]
    by_cases h : sSelves m (τ.2 48) k = 0 <;> simp [h]
  · rw [B_R_absent_13]
    simp (disch := omega) only [m_gF, m_gI, m_pI, m_gIl, m_pIl, ii_m1, ii_s1, m_pF, obs, wF_1, wF_2, wA_1, wA_2, wR_1, wR_2, Nat.reduceEqDiff, Nat.reduceAdd, Nat.reduceMul, if_true, if_false, ite_true, ite_false, ii_la, ii_al, ii_lm, ii_ml, ii_add, ii_mul, ii_1, ii_le, ii_lt, ii_c1, ii_c2, ii_c3, ii_c4, ii_c5, ii_n1, ii_nn, kC0_v, kC1_v, kC2_v, kC3_v, kC0_x, kC1_x, kC2_x, not_true_eq_false, not_false_eq_true, ne_eq, hn]
    rw [if_pos (Nat.le_refl n)]; rfl
theorem P_absent {S : pS} {L : xA} {s τ : rT} {m n q : Nat} {l : List Nat} (I : Iv S L s τ m n q l) (hd : RD s τ) : Pd m_Y_absent m_R_absent [] S := by
  have I' := I; obtain ⟨D, A, hx, hr, ho, ⟨C, Cr, ⟨q1, q2, q3⟩, hy, hdy, hdk, xl, rl, hb1, hb2⟩, ⟨⟨tk, k1, k2, k3⟩, tb, tf, tr⟩, ⟨e48, hsc⟩, rc⟩ := I'; have C' := C; have Cr' := Cr; obtain ⟨hm, h8, hn, h6⟩ := C'; obtain ⟨hm', -, hn', -⟩ := Cr'
  exact P_dq I hd ⟨s, Kf.rf _ _ s, Y_absent 194 D C⟩ (fun b => ⟨wR (wF τ 0 0) 49 (τ.2 48), e_T1 τ, by rw [e48]; exact R_absent 194 b τ Cr (by rw [← e48]; exact hsc.2.2.2.1)⟩)
