/-! YEARS by seeds -/
theorem ii_div {a c : Nat} (ha : a < 2147483648) (hc : c < 2147483648) : Int32.ofNat a / Int32.ofNat c = Int32.ofNat (a / c) := by
  have h : a / c ≤ a := Nat.div_le_self a c
  apply Int32.toInt_inj.mp
  rw [Int32.toInt_div, ii_ti ha, ii_ti hc, ii_ti (by omega), ← Int.ofNat_tdiv]
  generalize a / c = y at h ⊢
  exact Int.bmod_eq_of_le (by omega) (by omega)
theorem ii_mod {a c : Nat} (ha : a < 2147483648) (hc : c < 2147483648) : Int32.ofNat a - Int32.ofNat a / Int32.ofNat c * Int32.ofNat c = Int32.ofNat (a % c) := by
  have h := Nat.div_mul_le_self a c
  have h2 := Nat.div_add_mod a c
  rw [ii_div ha hc, ii_mul, ii_sub h]
  congr 1
  rw [Nat.mul_comm] at h
  rw [Nat.mul_comm (a / c) c]
  omega
def drS (x : Int32) : Int32 := x * 1103515245 + 12345
def drK (x : Int32) : Nat := ((x >>> ((16 : Int32) &&& 31)) &&& 32767).toBitVec.toNat
theorem drK_e (x : Int32) : (x >>> ((16 : Int32) &&& 31)) &&& 32767 = Int32.ofNat (drK x) := by
  apply Int32.toBitVec_inj.mp
  show _ = BitVec.ofNat 32 _
  unfold drK
  rw [BitVec.ofNat_toNat, BitVec.setWidth_eq]
theorem drK_lt (x : Int32) : drK x < 32768 := by
  unfold drK
  rw [Int32.toBitVec_and, BitVec.toNat_and]
  exact Nat.lt_of_le_of_lt Nat.and_le_right (by decide)
theorem m15 : ∀ i : Fin 32, (32767 : Int32).toBitVec.getLsbD i.val = decide (i.val < 15) := by decide +kernel
theorem sh_eq (v : Int32) : ((v.toUInt32 >>> ((16 : Int32).toUInt32 &&& Int32.toUInt32 31)).toInt32) &&& 32767 = (v >>> ((16 : Int32) &&& 31)) &&& 32767 := by
  apply Int32.toBitVec_inj.mp
  apply BitVec.eq_of_getLsbD_eq
  intro i hi
  rw [Int32.toBitVec_and, Int32.toBitVec_and, BitVec.getLsbD_and, BitVec.getLsbD_and, m15 ⟨i, hi⟩]
  by_cases h : i < 15
  · have e1 : ((v.toUInt32 >>> ((16 : Int32).toUInt32 &&& Int32.toUInt32 31)).toInt32).toBitVec = v.toBitVec >>> 16 := rfl
    have e2 : (v >>> ((16 : Int32) &&& 31)).toBitVec = v.toBitVec.sshiftRight 16 := rfl
    rw [e1, e2, BitVec.getLsbD_ushiftRight, BitVec.getLsbD_sshiftRight]
    have h1 : ¬ 32 ≤ i := by omega
    have h2 : 16 + i < 32 := by omega
    simp [h1, h2]
  · simp [h]
theorem c_R_draws (d : Nat) (b : pS) (τ : rT) (k : Nat) (h0 : 0 < k) (hk : k < 2147483648) : vcall (d + 1) m_R_draws [.ref 30, .int (Int32.ofNat k)] (mS b τ) = some (.inl (some (.int (Int32.ofNat (drK (drS (τ.1 52)) % k)))), mS b (wF τ 52 (drS (τ.1 52)))) := by
  have h1 := drK_lt (drS (τ.1 52))
  refine (vR rfl).trans ((B_R_draws_0 _ _ _ _).trans ?_)
  simp (disch := omega) only [m_gF, m_pF, obs, wF_1, if_true, show τ.1 52 * 1103515245 + 12345 = drS (τ.1 52) from rfl, drK_e, ii_mod]
  rw [if_neg (fun h => by have := congrArg Int32.toInt h; rw [ii_ti hk] at this; have z : (0 : Int32).toInt = 0 := by decide
                          omega)]
theorem pSet_2 (b : pS) (e : Nat) (c c' : pC) : pSet (pSet b e c) e c' = pSet b e c' := by
  refine congrArg (fun z => (b.1, b.2.1, z)) (funext fun j => ?_)
  show (if _ then _ else (if _ then _ else _)) = _
  by_cases h : j = e
  · rw [if_pos h, if_pos h]
  · rw [if_neg h, if_neg h, if_neg h]
theorem pSet_e (b : pS) (e : Nat) (c : pC) : (pSet b e c).2.2 e = some c := if_pos rfl
theorem c_D_next (d : Nat) {b : pS} {L : xA} {s : rT} {e : Nat} {x : Int32} (o : Ot L e) (he : b.2.2 e = some (cO 6 [.int x])) (k : Nat) (h0 : 0 < k) (hk : k < 2147483648) : vcall (d + 1) m_Sd_nextBelow [.ref e, .int (Int32.ofNat k)] (xS b L s) = some (.inl (some (.int (Int32.ofNat (drK (drS x) % k)))), xS (pSet b e (cO 6 [.int (drS x)])) L s) := by
  have h1 := drK_lt (drS x)
  have e1 : (xS b L s).2.2 e = some (cO 6 [.int x]) := (xS_o o).trans he
  have e2 : (xS (pSet b e (cO 6 [.int (drS x)])) L s).2.2 e = some (cO 6 [.int (drS x)]) := (xS_o o).trans (pSet_e _ _ _)
  have e0 : vcall (d + 1) m_Sd_nextBelow [.ref e, .int (Int32.ofNat k)] (xS b L s) = den d m_Sd_nextBelow 0 [.ref e, .int (Int32.ofNat k)] [] (xS b L s) := by
    have h : rcv m_Sd_nextBelow [.ref e, .int (Int32.ofNat k)] (xS b L s) = true := isO_at e1
    unfold vcall
    rw [h]
    rfl
  rw [e0]
  refine (B_Sd_nextBelow_0 _ _ _ _).trans ?_
  have g1 : gFi (xS b L s) e 6 0 = some x := gFi_at e1 rfl
  have g2 : gFi (xS (pSet b e (cO 6 [.int (drS x)])) L s) e 6 0 = some (drS x) := gFi_at e2 rfl
  have p1 : pF (xS b L s) e 6 0 (.int (drS x)) = some (xS (pSet b e (cO 6 [.int (drS x)])) L s) := by
    rw [pF_at e1 (by show 0 < 1; decide), xS_so o]; rfl
  simp (disch := omega) only [g1, obs, show x * 1103515245 + 12345 = drS x from rfl, p1, g2, sh_eq, drK_e, ii_mod, ii_c3]
  rw [if_pos h0, if_neg (fun h => by have := congrArg Int32.toInt h; rw [ii_ti hk] at this; have z : (0 : Int32).toInt = 0 := by decide
                                     omega)]
/-- what is drawn for a day, and done -/
def ssn1 (m n q : Nat) (x : Int32 × (Nat → Int32)) : Int32 × (Nat → Int32) :=
  if m = 0 then (drS (drS x.1), if drK (drS (drS x.1)) % 16 < q then sFeed (drK (drS x.1) % n) x.2 else x.2)
  else (drS (drS (drS x.1)), if drK (drS (drS (drS x.1))) % 16 < q then sFeed (drK (drS x.1) % n) (sSit n (drK (drS x.1) % n) (drK (drS (drS x.1)) % m) x.2) else sSit n (drK (drS x.1) % n) (drK (drS (drS x.1)) % m) x.2)
def ssn (l : List Nat) (m n : Nat) (dk fs : Nat → Int32) (q : Nat) (x : Int32 × (Nat → Int32)) : Int32 × (Nat → Int32) := if n = 0 then (x.1, sPass l n dk fs x.2) else ((ssn1 m n q x).1, sPass l n dk fs (ssn1 m n q x).2)
theorem scI_ssn1 {D m n q : Nat} {x : Int32 × (Nat → Int32)} (h6 : n ≤ 6) (h8 : m ≤ 8) (h0 : 0 < n) (h : scI D m n x.2) : scI D m n (ssn1 m n q x).2 := by
  unfold ssn1
  have hp : drK (drS x.1) % n < n := Nat.mod_lt _ h0
  by_cases hm : m = 0
  · rw [if_pos hm]
    dsimp only
    split
    · exact scI_feed hp h6 h
    · exact h
  · rw [if_neg hm]
    dsimp only
    have := scI_sit hp h6 (Nat.mod_lt (drK (drS (drS x.1))) (by omega : 0 < m)) h8 h
    split
    · exact scI_feed hp h6 this
    · exact this
theorem scI_ssn {D m n q : Nat} {x : Int32 × (Nat → Int32)} (l : List Nat) (dk fs : Nat → Int32) (h6 : n ≤ 6) (h8 : m ≤ 8) (h : scI D m n x.2) : scI (D + 1) m n (ssn l m n dk fs q x).2 := by
  unfold ssn
  by_cases h0 : n = 0
  · rw [if_pos h0]; exact scI_pass l dk fs h6 h
  · rw [if_neg h0]; exact scI_pass l dk fs h6 (scI_ssn1 h6 h8 (by omega) h)
theorem ssn_c {l : List Nat} {m n q : Nat} {dk dk' fs fs' : Nat → Int32} (h6 : n ≤ 6) (h1 : ∀ p, p < n → dk p = dk' p) (h2 : ∀ p, p < n → fs p = fs' p) (x : Int32 × (Nat → Int32)) : ssn l m n dk fs q x = ssn l m n dk' fs' q x := by
  unfold ssn
  rw [sPass_c h6 h1 h2, sPass_c h6 h1 h2]
def ssnK (l : List Nat) (m n : Nat) (dk fs : Nat → Int32) (q : Nat) (x : Int32) (v : Nat → Int32) (k : Nat) : Int32 × (Nat → Int32) := fo (fun _ x => ssn l m n dk fs q x) k (x, v)
theorem scI_ssnK {m n q : Nat} {v : Nat → Int32} (l : List Nat) (dk fs : Nat → Int32) (x : Int32) (h6 : n ≤ 6) (h8 : m ≤ 8) (h : scI 800 m n v) (k : Nat) : scI (800 + k) m n (ssnK l m n dk fs q x v k).2 := by
  induction k with
  | zero => exact h
  | succ k ih => exact scI_ssn l dk fs h6 h8 ih
theorem ssnK_c {l : List Nat} {m n q : Nat} {dk dk' fs fs' : Nat → Int32} (h6 : n ≤ 6) (h1 : ∀ p, p < n → dk p = dk' p) (h2 : ∀ p, p < n → fs p = fs' p) (x : Int32) (v : Nat → Int32) (k : Nat) : ssnK l m n dk fs q x v k = ssnK l m n dk' fs' q x v k := fo_congr k _ (fun _ a _ => ssn_c h6 h1 h2 a)
theorem c_R_seasonGoes (d : Nat) (b : pS) (τ : rT) {l : List Nat} {m n : Nat} (hl : rLaw τ l) (C : rCn τ m n) (K : scI 800 m n (τ.2 48)) (x : Int32) (q k : Nat) (hq : q ≤ 16) (hk : k ≤ 96) : ∃ τ', Kf [52] [44, 45, 49, 51] τ τ' ∧ τ'.2 49 = (ssnK l m n (τ.2 37) (τ.2 38) q x (τ.2 48) k).2 ∧ vcall (d + 7) m_R_seasonGoes [.ref 30, .int x, .int (Int32.ofNat q), .int (Int32.ofNat k)] (mS b τ) = some (.inl none, mS b τ') := by
  have C' := C
  obtain ⟨hm, h8, hn, h6⟩ := C'
  obtain ⟨⟨τ1, w⟩, e, k1, i1, i2⟩ := ex_loop (F := fun j (y : rT × Value) => den (d + 6) m_R_seasonGoes 12 [.ref 30, .int x, .int (Int32.ofNat q), .int (Int32.ofNat k), .int (Int32.ofNat j), y.2] [] (mS b y.1)) (I := fun j y => Kf [52] [44, 45, 49, 51] τ y.1 ∧ y.1.1 52 = (ssnK l m n (τ.2 37) (τ.2 38) q x (τ.2 48) j).1 ∧ y.1.2 49 = (ssnK l m n (τ.2 37) (τ.2 38) q x (τ.2 48) j).2) k (wF (wR τ 49 (τ.2 48)) 52 x, mk0) ⟨((Kf.rf _ _ τ).wR (by decide) _).wF (by decide) _, rfl, rfl⟩ (fun j y hj hy => by
    obtain ⟨τ1, w⟩ := y
    obtain ⟨k1, i1, i2⟩ := hy
    dsimp only at k1 i1 i2 ⊢
    have hm1 := (k1.1 22 (by decide)).trans hm
    have hn1 := (k1.1 23 (by decide)).trans hn
    have hs := scI_ssnK (q := q) l (τ.2 37) (τ.2 38) x h6 h8 K j
    generalize hz : ssnK l m n (τ.2 37) (τ.2 38) q x (τ.2 48) j = z at i1 i2 hs
    have hz1 : ssnK l m n (τ.2 37) (τ.2 38) q x (τ.2 48) (j + 1) = ssn l m n (τ.2 37) (τ.2 38) q z := by rw [← hz]; rfl
    rw [hz1]
    by_cases h0 : n = 0
    · obtain ⟨τ2, k2, i3, e2⟩ := c_R_passes d b τ1 (k1.law hl) (k1.cn C) (by rw [i2]; exact hs.1)
      rw [i2, k1.2 37 (by decide), k1.2 38 (by decide)] at i3
      refine ⟨(τ2, w), ?_, k1.tr (k2.up (by decide) (by decide)), ?_, ?_⟩
      · dsimp only
        rw [B_R_seasonGoes_12]
        simp (disch := omega) only [m_gF, m_gI, m_pI, m_gIl, m_pIl, ii_m1, ii_s1, m_pF, obs, wF_1, wF_2, wA_1, wA_2, wR_1, wR_2, Nat.reduceEqDiff, Nat.reduceAdd, Nat.reduceMul, if_true, if_false, ite_true, ite_false, ii_la, ii_al, ii_lm, ii_ml, ii_add, ii_mul, ii_1, ii_le, ii_lt, ii_c1, ii_c2, ii_c3, ii_c4, ii_c5, ii_n1, ii_nn, kC0_v, kC1_v, kC2_v, kC3_v, kC0_x, kC1_x, kC2_x, not_true_eq_false, not_false_eq_true, ne_eq, hn1]
        rw [if_neg (by omega), if_pos (by omega), B_R_seasonGoes_74]
        simp (disch := omega) only [m_gF, m_gI, m_pI, m_gIl, m_pIl, ii_m1, ii_s1, m_pF, obs, wF_1, wF_2, wA_1, wA_2, wR_1, wR_2, Nat.reduceEqDiff, Nat.reduceAdd, Nat.reduceMul, if_true, if_false, ite_true, ite_false, ii_la, ii_al, ii_lm, ii_ml, ii_add, ii_mul, ii_1, ii_le, ii_lt, ii_c1, ii_c2, ii_c3, ii_c4, ii_c5, ii_n1, ii_nn, kC0_v, kC1_v, kC2_v, kC3_v, kC0_x, kC1_x, kC2_x, not_true_eq_false, not_false_eq_true, ne_eq, e2]
      · unfold ssn; rw [if_pos h0]; exact (k2.1 52 (by decide)).trans i1
      · unfold ssn; rw [if_pos h0]; exact i3
    · have hp : drK (drS z.1) % n < n := Nat.mod_lt _ (by omega)
      -- from the meal on
      have k57 : ∀ (τ2 : rT) (y : Int32) (v1 : Nat → Int32), Kf [52] [44, 45, 49, 51] τ τ2 → τ2.1 52 = y → τ2.2 49 = v1 → scI (800 + j) m n v1 → ∃ τ3, Kf [52] [44, 45, 49, 51] τ τ3 ∧ τ3.1 52 = drS y ∧ τ3.2 49 = sPass l n (τ.2 37) (τ.2 38) (if drK (drS y) % 16 < q then sFeed (drK (drS z.1) % n) v1 else v1) ∧ den (d + 6) m_R_seasonGoes 57 [.ref 30, .int x, .int (Int32.ofNat q), .int (Int32.ofNat k), .int (Int32.ofNat j), .int (Int32.ofNat (drK (drS z.1) % n))] [] (mS b τ2) = den (d + 6) m_R_seasonGoes 12 [.ref 30, .int x, .int (Int32.ofNat q), .int (Int32.ofNat k), .int (Int32.ofNat (j + 1)), .int (Int32.ofNat (drK (drS z.1) % n))] [] (mS b τ3) := by
        intro τ2 y v1 k2 i3 i4 hs1
        have h16 : drK (drS y) % 16 < 16 := Nat.mod_lt _ (by decide)
        have ed := c_R_draws (d + 5) b τ2 16 (by decide) (by decide)
        rw [i3] at ed
        have ed' : vcall (d + 6) m_R_draws [.ref 30, .int 16] (mS b τ2) = some (.inl (some (.int (Int32.ofNat (drK (drS y) % 16)))), mS b (wF τ2 52 (drS y))) := ed
        by_cases hf : drK (drS y) % 16 < q
        · have kk : Kf [52] [44, 45, 49, 51] τ (wR (wF τ2 52 (drS y)) 49 (sFeed (drK (drS z.1) % n) (τ2.2 49))) := (k2.wF (by decide) _).wR (by decide) _
          obtain ⟨τ3, k3, i5, e3⟩ := c_R_passes d b (wR (wF τ2 52 (drS y)) 49 (sFeed (drK (drS z.1) % n) (τ2.2 49))) (kk.law hl) (kk.cn C) (by rw [wR_g, i4]; exact (scI_feed hp h6 hs1).1)
          rw [wR_g, kk.2 37 (by decide), kk.2 38 (by decide)] at i5
          refine ⟨τ3, kk.tr (k3.up (by decide) (by decide)), (k3.1 52 (by decide)).trans rfl, ?_, ?_⟩
          · rw [i5, if_pos hf, i4]
          · rw [B_R_seasonGoes_57, ed', kC1_v]
            simp (disch := omega) only [m_gF, m_gI, m_pI, m_gIl, m_pIl, ii_m1, ii_s1, m_pF, obs, wF_1, wF_2, wA_1, wA_2, wR_1, wR_2, Nat.reduceEqDiff, Nat.reduceAdd, Nat.reduceMul, if_true, if_false, ite_true, ite_false, ii_la, ii_al, ii_lm, ii_ml, ii_add, ii_mul, ii_1, ii_le, ii_lt, ii_c1, ii_c2, ii_c3, ii_c4, ii_c5, ii_n1, ii_nn, kC0_v, kC1_v, kC2_v, kC3_v, kC0_x, kC1_x, kC2_x, not_true_eq_false, not_false_eq_true, ne_eq]
            rw [if_neg (by omega), c_R_feeds (d + 5) b _ _ (by omega), kC1_v, B_R_seasonGoes_74]
            show kC0 (vcall (d + 6) m_R_passes [.ref 30] (mS b (wR (wF τ2 52 (drS y)) 49 (sFeed (drK (drS z.1) % n) (τ2.2 49))))) _ _ = _
            rw [e3, kC0_v, ii_1]
        · have kk : Kf [52] [44, 45, 49, 51] τ (wF τ2 52 (drS y)) := k2.wF (by decide) _
          obtain ⟨τ3, k3, i5, e3⟩ := c_R_passes d b (wF τ2 52 (drS y)) (kk.law hl) (kk.cn C) (by show Sok m n (τ2.2 49); rw [i4]; exact hs1.1)
          rw [kk.2 37 (by decide), kk.2 38 (by decide)] at i5
          refine ⟨τ3, kk.tr (k3.up (by decide) (by decide)), (k3.1 52 (by decide)).trans rfl, ?_, ?_⟩
          · rw [i5, if_neg hf]; show sPass _ _ _ _ (τ2.2 49) = _; rw [i4]
          · rw [B_R_seasonGoes_57, ed', kC1_v]
            simp (disch := omega) only [m_gF, m_gI, m_pI, m_gIl, m_pIl, ii_m1, ii_s1, m_pF, obs, wF_1, wF_2, wA_1, wA_2, wR_1, wR_2, Nat.reduceEqDiff, Nat.reduceAdd, Nat.reduceMul, if_true, if_false, ite_true, ite_false, ii_la, ii_al, ii_lm, ii_ml, ii_add, ii_mul, ii_1, ii_le, ii_lt, ii_c1, ii_c2, ii_c3, ii_c4, ii_c5, ii_n1, ii_nn, kC0_v, kC1_v, kC2_v, kC3_v, kC0_x, kC1_x, kC2_x, not_true_eq_false, not_false_eq_true, ne_eq]
            rw [if_pos (by omega), B_R_seasonGoes_74, e3, kC0_v, ii_1]
      have kd : Kf [52] [44, 45, 49, 51] τ (wF τ1 52 (drS z.1)) := k1.wF (by decide) _
      have ed := c_R_draws (d + 5) b τ1 n (by omega) (by omega)
      rw [i1] at ed
      by_cases hm0 : m = 0
      · obtain ⟨τ3, k3, a1, a2, a3⟩ := k57 (wF τ1 52 (drS z.1)) (drS z.1) z.2 kd rfl i2 hs
        refine ⟨(τ3, .int (Int32.ofNat (drK (drS z.1) % n))), ?_, k3, ?_, ?_⟩
        · dsimp only
          rw [B_R_seasonGoes_12]
          simp (disch := omega) only [m_gF, m_gI, m_pI, m_gIl, m_pIl, ii_m1, ii_s1, m_pF, obs, wF_1, wF_2, wA_1, wA_2, wR_1, wR_2, Nat.reduceEqDiff, Nat.reduceAdd, Nat.reduceMul, if_true, if_false, ite_true, ite_false, ii_la, ii_al, ii_lm, ii_ml, ii_add, ii_mul, ii_1, ii_le, ii_lt, ii_c1, ii_c2, ii_c3, ii_c4, ii_c5, ii_n1, ii_nn, kC0_v, kC1_v, kC2_v, kC3_v, kC0_x, kC1_x, kC2_x, not_true_eq_false, not_false_eq_true, ne_eq, hn1, hm1, ed]
          rw [if_neg (by omega), if_neg (by omega), if_pos (by omega)]
          exact a3
        · dsimp only; unfold ssn ssn1; rw [if_neg h0, if_pos hm0]; exact a1
        · dsimp only; unfold ssn ssn1; rw [if_neg h0, if_pos hm0]; exact a2
      · have kd2 : Kf [52] [44, 45, 49, 51] τ (wF (wF τ1 52 (drS z.1)) 52 (drS (drS z.1))) := kd.wF (by decide) _
        have ed2 := c_R_draws (d + 5) b (wF τ1 52 (drS z.1)) m (by omega) (by omega)
        rw [show (wF τ1 52 (drS z.1)).1 52 = drS z.1 from rfl] at ed2
        have es := c_R_sits (d + 4) b (wF (wF τ1 52 (drS z.1)) 52 (drS (drS z.1))) (kd2.cn C) (drK (drS z.1) % n) (drK (drS (drS z.1)) % m) (by omega)
        obtain ⟨τ3, k3, a1, a2, a3⟩ := k57 (wR (wF (wF τ1 52 (drS z.1)) 52 (drS (drS z.1))) 49 (sSit n (drK (drS z.1) % n) (drK (drS (drS z.1)) % m) (τ1.2 49))) (drS (drS z.1)) (sSit n (drK (drS z.1) % n) (drK (drS (drS z.1)) % m) z.2) (kd2.wR (by decide) _) rfl (by rw [wR_g, i2]) (scI_sit hp h6 (Nat.mod_lt _ (by omega)) h8 hs)
        refine ⟨(τ3, .int (Int32.ofNat (drK (drS z.1) % n))), ?_, k3, ?_, ?_⟩
        · dsimp only
          rw [B_R_seasonGoes_12]
          simp (disch := omega) only [m_gF, m_gI, m_pI, m_gIl, m_pIl, ii_m1, ii_s1, m_pF, obs, wF_1, wF_2, wA_1, wA_2, wR_1, wR_2, Nat.reduceEqDiff, Nat.reduceAdd, Nat.reduceMul, if_true, if_false, ite_true, ite_false, ii_la, ii_al, ii_lm, ii_ml, ii_add, ii_mul, ii_1, ii_le, ii_lt, ii_c1, ii_c2, ii_c3, ii_c4, ii_c5, ii_n1, ii_nn, kC0_v, kC1_v, kC2_v, kC3_v, kC0_x, kC1_x, kC2_x, not_true_eq_false, not_false_eq_true, ne_eq, hn1, hm1, ed]
          rw [if_neg (by omega), if_neg (by omega), if_neg (by omega), ed2, kC1_v, es, kC1_v]
          exact a3
        · dsimp only; unfold ssn ssn1; rw [if_neg h0, if_neg hm0]; exact a1
        · dsimp only; unfold ssn ssn1; rw [if_neg h0, if_neg hm0]; exact a2)
  dsimp only at e k1 i1 i2
  refine ⟨τ1, k1, i2, (vR rfl).trans ((B_R_seasonGoes_0 _ _ _ _ _ _).trans ?_)⟩
  simp (disch := omega) only [kC0_v, c_R_take (d + 4), m_pF, obs]
  refine e.trans ?_
  rw [B_R_seasonGoes_12]
  simp (disch := omega) only [m_gF, m_gI, m_pI, m_gIl, m_pIl, ii_m1, ii_s1, m_pF, obs, wF_1, wF_2, wA_1, wA_2, wR_1, wR_2, Nat.reduceEqDiff, Nat.reduceAdd, Nat.reduceMul, if_true, if_false, ite_true, ite_false, ii_la, ii_al, ii_lm, ii_ml, ii_add, ii_mul, ii_1, ii_le, ii_lt, ii_c1, ii_c2, ii_c3, ii_c4, ii_c5, ii_n1, ii_nn, kC0_v, kC1_v, kC2_v, kC3_v, kC0_x, kC1_x, kC2_x, not_true_eq_false, not_false_eq_true, ne_eq]
  rw [if_pos (Nat.le_refl k)]
/-- the room has grown by k cells -/
def Bx (b b' : pS) (k : Nat) : Prop := b'.1 = b.1 + k ∧ b'.2.1 = b.2.1 + k ∧ (∀ j, j < b.1 → b'.2.2 j = b.2.2 j) ∧ (∀ j, b'.1 ≤ j → b'.2.2 j = b.2.2 j)
theorem Bx.tr {b b' b'' : pS} {k k' : Nat} (h : Bx b b' k) (h' : Bx b' b'' k') : Bx b b'' (k + k') := by
  obtain ⟨a1, a2, a3, a4⟩ := h
  obtain ⟨c1, c2, c3, c4⟩ := h'
  exact ⟨by omega, by omega, fun j hj => (c3 j (by omega)).trans (a3 j hj), fun j hj => (c4 j hj).trans (a4 j (by omega))⟩
theorem xS_new {b : pS} {L : xA} {s : rT} (o : Ot L b.1) (c : pC) (k : Nat) : pNew (xS b L s) c k = xS (pNew b c k) L s := by
  have h := xS_so (b := b) (L := L) (s := s) o c
  have h2 : (pSet (xS b L s) b.1 c).2.2 = (xS (pSet b b.1 c) L s).2.2 := by rw [h]
  exact congrArg (fun z => (b.1 + 1, b.2.1 + k, z)) h2
theorem c_Y_drawn (d : Nat) {b : pS} {L : xA} {s : rT} {m n e : Nat} {x : Int32} (D : Dj L) (C : Cn s m n) (o : Ot L e) (he : b.2.2 e = some (cO 6 [.int x])) (q : Nat) (hq : q ≤ 16) (h0 : 0 < n) : vcall (d + 4) m_Y_playDrawnSteps [.ref 0, .ref e, .int (Int32.ofNat q)] (xS b L s) = some (.inl none, xS (pSet b e (cO 6 [.int (ssn1 m n q (x, s.2 1)).1])) L (wR s 1 (ssn1 m n q (x, s.2 1)).2)) := by
  have C' := C
  obtain ⟨hm, h8, hn, h6⟩ := C'
  have hp : drK (drS x) % n < n := Nat.mod_lt _ h0
  have k42 : ∀ (y : Int32) (v1 : Nat → Int32), den (d + 3) m_Y_playDrawnSteps 42 [.ref 0, .ref e, .int (Int32.ofNat q), .int (Int32.ofNat (drK (drS x) % n))] [] (xS (pSet b e (cO 6 [.int y])) L (wR s 1 v1)) = some (.inl none, xS (pSet b e (cO 6 [.int (drS y)])) L (wR s 1 (if drK (drS y) % 16 < q then sFeed (drK (drS x) % n) v1 else v1))) := by
    intro y v1
    have h16 : drK (drS y) % 16 < 16 := Nat.mod_lt _ (by decide)
    have ed := c_D_next (d + 2) (L := L) (s := wR s 1 v1) o (pSet_e b e (cO 6 [.int y])) 16 (by decide) (by decide)
    rw [pSet_2] at ed
    have ed' : vcall (d + 3) m_Sd_nextBelow [.ref e, .int 16] (xS (pSet b e (cO 6 [.int y])) L (wR s 1 v1)) = some (.inl (some (.int (Int32.ofNat (drK (drS y) % 16)))), xS (pSet b e (cO 6 [.int (drS y)])) L (wR s 1 v1)) := ed
    rw [B_Y_playDrawnSteps_42, ed', kC1_v]
    by_cases hf : drK (drS y) % 16 < q
    · simp (disch := omega) only [x0_gF D, sn_gF (SN_p D), sn_gI (SN_p D), xu_gF D, xu_gI D, xk_gF D, xk_gI D, x1_gF D, pl_ix, ii_m1, ii_s1, obs, wF_1, wF_2, wA_1, wA_2, wR_1, wR_2, Nat.reduceEqDiff, Nat.reduceAdd, Nat.reduceMul, if_true, if_false, ite_true, ite_false, ii_la, ii_al, ii_lm, ii_ml, ii_add, ii_mul, ii_1, ii_le, ii_lt, ii_c1, ii_c2, ii_c3, ii_c4, ii_c5, ii_n1, ii_nn, kC0_v, kC1_v, kC2_v, kC3_v, kC0_x, kC1_x, kC2_x, not_true_eq_false, not_false_eq_true, ne_eq, c_S_giveMeal (d + 2) (SN_q D)]
      rw [if_neg (by omega), if_pos hf, wR_wR]
    · simp (disch := omega) only [x0_gF D, sn_gF (SN_p D), sn_gI (SN_p D), xu_gF D, xu_gI D, xk_gF D, xk_gI D, x1_gF D, pl_ix, ii_m1, ii_s1, obs, wF_1, wF_2, wA_1, wA_2, wR_1, wR_2, Nat.reduceEqDiff, Nat.reduceAdd, Nat.reduceMul, if_true, if_false, ite_true, ite_false, ii_la, ii_al, ii_lm, ii_ml, ii_add, ii_mul, ii_1, ii_le, ii_lt, ii_c1, ii_c2, ii_c3, ii_c4, ii_c5, ii_n1, ii_nn, kC0_v, kC1_v, kC2_v, kC3_v, kC0_x, kC1_x, kC2_x, not_true_eq_false, not_false_eq_true, ne_eq]
      rw [if_pos (by omega), if_neg hf]
  have ed := c_D_next (d + 2) (L := L) (s := s) o he n h0 (by omega)
  refine (vY D rfl).trans ((B_Y_playDrawnSteps_0 _ _ _ _ _).trans ?_)
  unfold ssn1
  by_cases hm0 : m = 0
  · simp (disch := omega) only [x0_gF D, sn_gF (SN_p D), sn_gI (SN_p D), xu_gF D, xu_gI D, xk_gF D, xk_gI D, x1_gF D, pl_ix, ii_m1, ii_s1, obs, wF_1, wF_2, wA_1, wA_2, wR_1, wR_2, Nat.reduceEqDiff, Nat.reduceAdd, Nat.reduceMul, if_true, if_false, ite_true, ite_false, ii_la, ii_al, ii_lm, ii_ml, ii_add, ii_mul, ii_1, ii_le, ii_lt, ii_c1, ii_c2, ii_c3, ii_c4, ii_c5, ii_n1, ii_nn, kC0_v, kC1_v, kC2_v, kC3_v, kC0_x, kC1_x, kC2_x, not_true_eq_false, not_false_eq_true, ne_eq, hn, hm, ed]
    rw [if_pos (by omega), if_pos hm0]
    have := k42 (drS x) (s.2 1)
    rw [wR_s] at this
    exact this
  · have ed2 := c_D_next (d + 2) (L := L) (s := s) o (pSet_e b e (cO 6 [.int (drS x)])) m (by omega) (by omega)
    rw [pSet_2] at ed2
    have es := c_S_letSit (d + 1) (b := pSet b e (cO 6 [.int (drS (drS x))])) (SN_q D) C (drK (drS x) % n) (drK (drS (drS x)) % m) (by omega)
    simp (disch := omega) only [x0_gF D, sn_gF (SN_p D), sn_gI (SN_p D), xu_gF D, xu_gI D, xk_gF D, xk_gI D, x1_gF D, pl_ix, ii_m1, ii_s1, obs, wF_1, wF_2, wA_1, wA_2, wR_1, wR_2, Nat.reduceEqDiff, Nat.reduceAdd, Nat.reduceMul, if_true, if_false, ite_true, ite_false, ii_la, ii_al, ii_lm, ii_ml, ii_add, ii_mul, ii_1, ii_le, ii_lt, ii_c1, ii_c2, ii_c3, ii_c4, ii_c5, ii_n1, ii_nn, kC0_v, kC1_v, kC2_v, kC3_v, kC0_x, kC1_x, kC2_x, not_true_eq_false, not_false_eq_true, ne_eq, hn, hm, ed]
    rw [if_neg (by omega), if_neg hm0, ed2, kC1_v, es, kC1_v]
    exact k42 (drS (drS x)) _
theorem c_Y_playSeason (d : Nat) {b : pS} {L : xA} {s : rT} {m n : Nat} {l : List Nat} (D : Dj L) (C : Cn s m n) (xl : xLaw s l) (K : scI 800 m n (s.2 0)) (o : Ot L b.1) (x : Int32) (q k : Nat) (hq : q ≤ 16) (hk : k ≤ 96) : ∃ b' s', Bx b b' 1 ∧ Kf [] [22, 23, 1] s s' ∧ s'.2 1 = (ssnK l m n (s.2 12) (s.2 13) q x (s.2 0) k).2 ∧ vcall (d + 6) m_Y_playSeason [.ref 0, .int x, .int (Int32.ofNat q), .int (Int32.ofNat k)] (xS b L s) = some (.inl none, xS b' L s') := by
  have C' := C
  obtain ⟨hm, h8, hn, h6⟩ := C'
  have hb0 : ∀ y : Int32, Bx b (pSet (pNew b (cO 6 [.int 0]) 1) b.1 (cO 6 [.int y])) 1 := fun y => ⟨rfl, rfl, fun j hj => by
    show (if j = b.1 then _ else if j = b.1 then _ else _) = _
    rw [if_neg (by omega), if_neg (by omega)], fun j hj => by
    have : b.1 + 1 ≤ j := hj
    show (if j = b.1 then _ else if j = b.1 then _ else _) = _
    rw [if_neg (by omega), if_neg (by omega)]⟩
  obtain ⟨s1, e, k1, i2⟩ := ex_loop (F := fun j (y : rT) => den (d + 5) m_Y_playSeason 24 [.ref 0, .int x, .int (Int32.ofNat q), .int (Int32.ofNat k), .ref b.1, .int (Int32.ofNat j)] [] (xS (pSet (pNew b (cO 6 [.int 0]) 1) b.1 (cO 6 [.int (ssnK l m n (s.2 12) (s.2 13) q x (s.2 0) j).1])) L y)) (I := fun j y => Kf [] [22, 23, 1] s y ∧ y.2 1 = (ssnK l m n (s.2 12) (s.2 13) q x (s.2 0) j).2) k (wR s 1 (s.2 0)) ⟨(Kf.rf _ _ s).wR (by decide) _, rfl⟩ (fun j y hj hy => by
    obtain ⟨k1, i2⟩ := hy
    have hm1 := (k1.1 44 (by decide)).trans hm
    have hn1 := (k1.1 45 (by decide)).trans hn
    have hs := scI_ssnK (q := q) l (s.2 12) (s.2 13) x h6 h8 K j
    generalize hz : ssnK l m n (s.2 12) (s.2 13) q x (s.2 0) j = z at i2 hs
    have hz1 : ssnK l m n (s.2 12) (s.2 13) q x (s.2 0) (j + 1) = ssn l m n (s.2 12) (s.2 13) q z := by rw [← hz]; rfl
    rw [hz1]
    by_cases h0 : n = 0
    · obtain ⟨s2, k2, i3, e2⟩ := c_S_passDay (d + 1) (b := pSet (pNew b (cO 6 [.int 0]) 1) b.1 (cO 6 [.int z.1])) (SN_q D) (k1.xlaw xl) (k1.xcn C) (by rw [i2]; exact hs.1) (by rw [i2]; exact hs.2.1)
      rw [i2, k1.2 12 (by decide), k1.2 13 (by decide)] at i3
      refine ⟨s2, ?_, k1.tr k2, ?_⟩
      · rw [B_Y_playSeason_24]
        simp (disch := omega) only [x0_gF D, sn_gF (SN_p D), sn_gI (SN_p D), xu_gF D, xu_gI D, xk_gF D, xk_gI D, x1_gF D, pl_ix, ii_m1, ii_s1, obs, wF_1, wF_2, wA_1, wA_2, wR_1, wR_2, Nat.reduceEqDiff, Nat.reduceAdd, Nat.reduceMul, if_true, if_false, ite_true, ite_false, ii_la, ii_al, ii_lm, ii_ml, ii_add, ii_mul, ii_1, ii_le, ii_lt, ii_c1, ii_c2, ii_c3, ii_c4, ii_c5, ii_n1, ii_nn, kC0_v, kC1_v, kC2_v, kC3_v, kC0_x, kC1_x, kC2_x, not_true_eq_false, not_false_eq_true, ne_eq, hn1, B_Y_playSeason_47, e2]
        rw [if_neg (by omega), if_pos (by omega)]
        unfold ssn; rw [if_pos h0]
      · unfold ssn; rw [if_pos h0]; exact i3
    · have ep := c_Y_drawn (d + 1) (s := y) (x := z.1) D (k1.xcn C) o (pSet_e (pNew b (cO 6 [.int 0]) 1) b.1 (cO 6 [.int z.1])) q hq (by omega)
      rw [pSet_2, i2] at ep
      have kk : Kf [] [22, 23, 1] s (wR y 1 (ssn1 m n q z).2) := k1.wR (by decide) _
      have hs1 := scI_ssn1 (q := q) h6 h8 (by omega) hs
      obtain ⟨s2, k2, i3, e2⟩ := c_S_passDay (d + 1) (b := pSet (pNew b (cO 6 [.int 0]) 1) b.1 (cO 6 [.int (ssn1 m n q z).1])) (SN_q D) (kk.xlaw xl) (kk.xcn C) (by rw [wR_g]; exact hs1.1) (by rw [wR_g]; exact hs1.2.1)
      rw [wR_g, kk.2 12 (by decide), kk.2 13 (by decide)] at i3
      refine ⟨s2, ?_, kk.tr k2, ?_⟩
      · rw [B_Y_playSeason_24]
        simp (disch := omega) only [x0_gF D, sn_gF (SN_p D), sn_gI (SN_p D), xu_gF D, xu_gI D, xk_gF D, xk_gI D, x1_gF D, pl_ix, ii_m1, ii_s1, obs, wF_1, wF_2, wA_1, wA_2, wR_1, wR_2, Nat.reduceEqDiff, Nat.reduceAdd, Nat.reduceMul, if_true, if_false, ite_true, ite_false, ii_la, ii_al, ii_lm, ii_ml, ii_add, ii_mul, ii_1, ii_le, ii_lt, ii_c1, ii_c2, ii_c3, ii_c4, ii_c5, ii_n1, ii_nn, kC0_v, kC1_v, kC2_v, kC3_v, kC0_x, kC1_x, kC2_x, not_true_eq_false, not_false_eq_true, ne_eq, hn1, B_Y_playSeason_47]
        rw [if_neg (by omega), if_neg (by omega)]
        have ep' : vcall (d + 5) m_Y_playDrawnSteps [.ref 0, .ref b.1, .int (Int32.ofNat q)] (xS (pSet (pNew b (cO 6 [.int 0]) 1) b.1 (cO 6 [.int z.1])) L y) = some (.inl none, xS (pSet (pNew b (cO 6 [.int 0]) 1) b.1 (cO 6 [.int (ssn1 m n q z).1])) L (wR y 1 (ssn1 m n q z).2)) := ep
        rw [ep', kC0_v]
        simp (disch := omega) only [x0_gF D, sn_gF (SN_p D), sn_gI (SN_p D), xu_gF D, xu_gI D, xk_gF D, xk_gI D, x1_gF D, pl_ix, ii_m1, ii_s1, obs, wF_1, wF_2, wA_1, wA_2, wR_1, wR_2, Nat.reduceEqDiff, Nat.reduceAdd, Nat.reduceMul, if_true, if_false, ite_true, ite_false, ii_la, ii_al, ii_lm, ii_ml, ii_add, ii_mul, ii_1, ii_le, ii_lt, ii_c1, ii_c2, ii_c3, ii_c4, ii_c5, ii_n1, ii_nn, kC0_v, kC1_v, kC2_v, kC3_v, kC0_x, kC1_x, kC2_x, not_true_eq_false, not_false_eq_true, ne_eq, e2]
        unfold ssn; rw [if_neg h0]
      · unfold ssn; rw [if_neg h0]; exact i3)
  refine ⟨_, s1, hb0 (ssnK l m n (s.2 12) (s.2 13) q x (s.2 0) k).1, k1, i2, (vY D rfl).trans ((B_Y_playSeason_0 _ _ _ _ _ _).trans ?_)⟩
  simp only [x0_gF D, obs, kC0_v, c_S_takeQ (d + 4) D]
  have ei : vcall (d + 5) m_Sd_init [.ref (xS b L (wR s 1 (s.2 0))).1, .int x] (pNew (xS b L (wR s 1 (s.2 0))) (cO 6 [.int 0]) 1) = some (.inl none, xS (pSet (pNew b (cO 6 [.int 0]) 1) b.1 (cO 6 [.int x])) L (wR s 1 (s.2 0))) := by
    have e1 : (pNew (xS b L (wR s 1 (s.2 0))) (cO 6 [.int 0]) 1).2.2 b.1 = some (cO 6 [.int 0]) := if_pos rfl
    have h : rcv m_Sd_init [.ref (xS b L (wR s 1 (s.2 0))).1, .int x] (pNew (xS b L (wR s 1 (s.2 0))) (cO 6 [.int 0]) 1) = true := isO_at e1
    unfold vcall
    rw [h]
    show den (d + 4) m_Sd_init 0 [.ref b.1, .int x] [] _ = _
    rw [B_Sd_init_0, pF_at e1 (by show 0 < 1; decide), obs, xS_new o, xS_so o]
    rfl
  rw [ei, kC0_v]
  refine e.trans ?_
  rw [B_Y_playSeason_24]
  simp (disch := omega) only [ii_m1, ii_s1, obs, wF_1, wF_2, wA_1, wA_2, wR_1, wR_2, Nat.reduceEqDiff, Nat.reduceAdd, Nat.reduceMul, if_true, if_false, ite_true, ite_false, ii_la, ii_al, ii_lm, ii_ml, ii_add, ii_mul, ii_1, ii_le, ii_lt, ii_c1, ii_c2, ii_c3, ii_c4, ii_c5, ii_n1, ii_nn, kC0_v, kC1_v, kC2_v, kC3_v, kC0_x, kC1_x, kC2_x, not_true_eq_false, not_false_eq_true, ne_eq]
  rw [if_pos (Nat.le_refl k)]
