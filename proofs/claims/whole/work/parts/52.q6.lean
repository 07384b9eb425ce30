/-! CALLS that ask: share, well, getsUp -/
theorem jj_ti {a : Nat} (h : a < 9223372036854775808) : (Int64.ofNat a).toInt = a := Int64.toInt_ofNat_of_lt h
theorem jj_eq {a b : Nat} (ha : a < 9223372036854775808) (hb : b < 9223372036854775808) : (Int64.ofNat a = Int64.ofNat b) = (a = b) := by
  apply propext
  constructor
  · intro h
    have := congrArg Int64.toInt h
    rw [jj_ti ha, jj_ti hb] at this
    omega
  · intro h; rw [h]
theorem jj_lt {a b : Nat} (ha : a < 9223372036854775808) (hb : b < 9223372036854775808) : (Int64.ofNat a < Int64.ofNat b) = (a < b) := by
  rw [Int64.lt_iff_toInt_lt, jj_ti ha, jj_ti hb]; exact propext Int.ofNat_lt
theorem jj_add (a b : Nat) : Int64.ofNat a + Int64.ofNat b = Int64.ofNat (a + b) := (Int64.ofNat_add a b).symm
theorem jj_mul (a b : Nat) : Int64.ofNat a * Int64.ofNat b = Int64.ofNat (a * b) := (Int64.ofNat_mul a b).symm
theorem jj_sub {a c : Nat} (h : c ≤ a) : Int64.ofNat a - Int64.ofNat c = Int64.ofNat (a - c) := by
  have e : Int64.ofNat a = Int64.ofNat (a - c) + Int64.ofNat c := by rw [jj_add, Nat.sub_add_cancel h]
  rw [e, Int64.add_sub_cancel]
theorem jj_div {a c : Nat} (ha : a < 9223372036854775808) (hc : c < 9223372036854775808) : Int64.ofNat a / Int64.ofNat c = Int64.ofNat (a / c) := by
  have h : a / c ≤ a := Nat.div_le_self a c
  apply Int64.toInt_inj.mp
  rw [Int64.toInt_div, jj_ti ha, jj_ti hc, jj_ti (by omega), ← Int.ofNat_tdiv]
  generalize a / c = y at h ⊢
  exact Int.bmod_eq_of_le (by omega) (by omega)
theorem jj_mod {a c : Nat} (ha : a < 9223372036854775808) (hc : c < 9223372036854775808) : Int64.ofNat a - Int64.ofNat a / Int64.ofNat c * Int64.ofNat c = Int64.ofNat (a % c) := by
  have h := Nat.div_mul_le_self a c
  have h2 := Nat.div_add_mod a c
  rw [jj_div ha hc, jj_mul, jj_sub h]
  congr 1
  rw [Nat.mul_comm] at h
  rw [Nat.mul_comm (a / c) c]
  omega
theorem ij_o {a : Nat} (h : a < 2147483648) : (Int32.ofNat a).toInt64 = Int64.ofNat a := by
  apply Int64.toInt_inj.mp
  rw [Int32.toInt_toInt64, ii_ti h, jj_ti (by omega)]
theorem lg_0 (x : Int64) : (lg_cmp x 0 = 0) = (x = 0) := by
  unfold lg_cmp
  apply propext
  by_cases h1 : x > 0
  · rw [if_pos h1]; exact ⟨fun h => absurd h (by decide), fun h => by subst h; exact absurd h1 (by decide)⟩
  · rw [if_neg h1]
    by_cases h2 : x = 0
    · rw [if_pos h2]; exact ⟨fun _ => h2, fun _ => rfl⟩
    · rw [if_neg h2]; exact ⟨fun h => absurd h (by decide), fun h => absurd h h2⟩
theorem mod_half {x y : Nat} (h0 : 0 < y) (h : y ≤ x) : 2 * (y * (x % y)) ≤ x * y := by
  have h1 := Nat.div_add_mod x y
  have h2 : x % y < y := Nat.mod_lt _ h0
  have h3 : 1 ≤ x / y := (Nat.le_div_iff_mul_le h0).mpr (by omega)
  have h4 : y * 1 ≤ y * (x / y) := Nat.mul_le_mul_left y h3
  have h5 : 2 * (x % y) ≤ x := by omega
  calc 2 * (y * (x % y)) = y * (2 * (x % y)) := by rw [← Nat.mul_assoc, Nat.mul_comm 2 y, Nat.mul_assoc]
    _ ≤ y * x := Nat.mul_le_mul_left y h5
    _ = x * y := Nat.mul_comm y x
theorem c_Y_gcd (d : Nat) (s : pS) (a c : Nat) (ha : a < 65536) (hc : c < 65536) : call (d + 1) m_Y_greatestCommon [.int (Int32.ofNat a), .int (Int32.ofNat c)] s = some (.inl (some (.int (Int32.ofNat (Nat.gcd a c)))), s) := by
  have key : ∀ (f x y i : Nat) (v : Value), y ≤ x → x < 65536 → x * y < 2 ^ f → i + f < 64 → den d m_Y_greatestCommon 7 [.int (Int32.ofNat a), .int (Int32.ofNat c), .int (Int32.ofNat x), .int (Int32.ofNat y), .int (Int32.ofNat i), v] [] s = some (.inl (some (.int (Int32.ofNat (Nat.gcd x y)))), s) := by
    intro f
    induction f with
    | zero =>
      intro x y i v h1 h2 h3 h4
      have hy : y = 0 := by
        rcases Nat.eq_zero_or_pos y with h | h
        · exact h
        · have h5 : x * y < 1 := h3
          have := Nat.mul_le_mul (show 1 ≤ x by omega) h; omega
      subst hy
      rw [B_Y_greatestCommon_7, Nat.gcd_zero_right]
      simp (disch := omega) only [ii_m1, ii_s1, obs, wF_1, wF_2, wA_1, wA_2, wR_1, wR_2, Nat.reduceEqDiff, Nat.reduceAdd, Nat.reduceMul, if_true, if_false, ite_true, ite_false, ii_la, ii_al, ii_lm, ii_ml, ii_add, ii_mul, ii_1, ii_le, ii_lt, ii_c1, ii_c2, ii_c3, ii_c4, ii_c5, ii_n1, ii_nn, kC0_v, kC1_v, kC2_v, kC3_v, kC0_x, kC1_x, kC2_x, not_true_eq_false, not_false_eq_true, ne_eq]
      split <;> rfl
    | succ f ih =>
      intro x y i v h1 h2 h3 h4
      rw [B_Y_greatestCommon_7]
      by_cases hy : y = 0
      · subst hy
        rw [Nat.gcd_zero_right]
        simp (disch := omega) only [ii_m1, ii_s1, obs, wF_1, wF_2, wA_1, wA_2, wR_1, wR_2, Nat.reduceEqDiff, Nat.reduceAdd, Nat.reduceMul, if_true, if_false, ite_true, ite_false, ii_la, ii_al, ii_lm, ii_ml, ii_add, ii_mul, ii_1, ii_le, ii_lt, ii_c1, ii_c2, ii_c3, ii_c4, ii_c5, ii_n1, ii_nn, kC0_v, kC1_v, kC2_v, kC3_v, kC0_x, kC1_x, kC2_x, not_true_eq_false, not_false_eq_true, ne_eq]
        split <;> rfl
      · have hm : x % y < y := Nat.mod_lt _ (by omega)
        have := mod_half (x := x) (by omega) h1
        simp (disch := omega) only [ii_m1, ii_s1, obs, wF_1, wF_2, wA_1, wA_2, wR_1, wR_2, Nat.reduceEqDiff, Nat.reduceAdd, Nat.reduceMul, if_true, if_false, ite_true, ite_false, ii_la, ii_al, ii_lm, ii_ml, ii_add, ii_mul, ii_1, ii_le, ii_lt, ii_c1, ii_c2, ii_c3, ii_c4, ii_c5, ii_n1, ii_nn, kC0_v, kC1_v, kC2_v, kC3_v, kC0_x, kC1_x, kC2_x, not_true_eq_false, not_false_eq_true, ne_eq, ii_mod]
        rw [if_neg (by omega), if_neg hy, if_neg hy, ih y (x % y) (i + 1) _ (by omega) (by omega) (by rw [Nat.pow_succ] at h3; omega) (by omega), Nat.gcd_comm x y, Nat.gcd_rec y x, Nat.gcd_comm]
  refine cR.trans ((B_Y_greatestCommon_0 _ _ _ _).trans ?_)
  have hb : ∀ x y : Nat, x < 65536 → y < 65536 → x * y < 2 ^ 32 := fun x y hx hy => Nat.lt_of_le_of_lt (Nat.mul_le_mul (show x ≤ 65535 by omega) (show y ≤ 65535 by omega)) (by decide)
  by_cases h : c ≤ a
  · exact key 32 a c 0 mk0 h ha (hb a c ha hc) (by decide)
  · show den d m_Y_greatestCommon 7 [.int (Int32.ofNat a), .int (Int32.ofNat c), .int (Int32.ofNat a), .int (Int32.ofNat c), .int (Int32.ofNat 0), mk0] [] s = _
    rw [B_Y_greatestCommon_7]
    simp (disch := omega) only [ii_m1, ii_s1, obs, wF_1, wF_2, wA_1, wA_2, wR_1, wR_2, Nat.reduceEqDiff, Nat.reduceAdd, Nat.reduceMul, if_true, if_false, ite_true, ite_false, ii_la, ii_al, ii_lm, ii_ml, ii_add, ii_mul, ii_1, ii_le, ii_lt, ii_c1, ii_c2, ii_c3, ii_c4, ii_c5, ii_n1, ii_nn, kC0_v, kC1_v, kC2_v, kC3_v, kC0_x, kC1_x, kC2_x, not_true_eq_false, not_false_eq_true, ne_eq, ii_mod]
    rw [if_neg (by omega), if_neg (by omega), if_neg (by omega), Nat.mod_eq_of_lt (by omega : a < c)]
    have := key 32 c a 1 (.int (Int32.ofNat a)) (by omega) hc (hb c a hc ha) (by decide)
    rw [Nat.gcd_comm c a] at this
    exact this
theorem c_R_least (d : Nat) (s : pS) (a c w : Nat) (ha : a < 9223372036854775808) (hc : c < 9223372036854775808) (h0 : Nat.gcd a c ≠ 0) (hw : w < 2) : call (d + 1) m_R_least [.long (Int64.ofNat a), .long (Int64.ofNat c), .int (Int32.ofNat w)] s = some (.inl (some (.long (Int64.ofNat ((if w = 0 then a else c) / Nat.gcd a c)))), s) := by
  have key : ∀ (f x y : Nat) (v : Value), y < f → x < 9223372036854775808 → y < 9223372036854775808 → Nat.gcd x y = Nat.gcd a c → den d m_R_least 6 [.long (Int64.ofNat a), mk0, .long (Int64.ofNat c), mk0, .int (Int32.ofNat w), .long (Int64.ofNat x), mk0, .long (Int64.ofNat y), mk0, v, mk0] [] s = some (.inl (some (.long (Int64.ofNat ((if w = 0 then a else c) / Nat.gcd a c)))), s) := by
    intro f
    induction f with
    | zero => intro x y v h; omega
    | succ f ih =>
      intro x y v h1 h2 h3 h4
      have z : (0 : Int64) = Int64.ofNat 0 := rfl
      rw [B_R_least_6]
      simp only [lg_0]
      by_cases hy : y = 0
      · subst hy
        rw [Nat.gcd_zero_right] at h4
        rw [← h4] at h0 ⊢
        rw [z, if_pos rfl]
        have h5 : ¬ Int64.ofNat x = Int64.ofNat 0 := by rw [jj_eq h2 (by decide)]; exact h0
        rw [jj_div hc h2, jj_div ha h2]
        have : w = 0 ∨ w = 1 := by omega
        rcases this with rfl | rfl
        · rw [if_neg (by decide), if_neg h5, if_pos rfl]
        · rw [if_pos (by decide), if_neg h5, if_neg (by decide)]
      · have h5 : ¬ Int64.ofNat y = Int64.ofNat 0 := by rw [jj_eq h3 (by decide)]; exact hy
        have hm : x % y < y := Nat.mod_lt _ (by omega)
        rw [z, if_neg h5, if_neg h5, jj_mod h2 h3]
        exact ih y (x % y) _ (by omega) h3 (by omega) (by rw [← h4, Nat.gcd_comm x y, Nat.gcd_rec y x, Nat.gcd_comm])
  refine cR.trans ((B_R_least_0 _ _ _ _ _).trans ?_)
  exact key (c + 1) a c _ (by omega) ha hc rfl
theorem sAll_n {n t : Nat} (h6 : n ≤ 6) {v : Nat → Int32} (h : ∀ p, p < 6 → ∃ j, j ≤ 9999 ∧ v (26 + 6 * t + p) = Int32.ofNat j) : ∃ c, c ≤ 9999 * n ∧ sAll n v t = Int32.ofNat c ∧ ∀ p j, p < n → j ≤ 9999 → v (26 + 6 * t + p) = Int32.ofNat j → j ≤ c := by
  induction n with
  | zero => exact ⟨0, by omega, rfl, fun p j hp => absurd hp (Nat.not_lt_zero p)⟩
  | succ n ih =>
    obtain ⟨c, c1, c2, c3⟩ := ih (by omega)
    obtain ⟨j, j1, j2⟩ := h n (by omega)
    refine ⟨c + j, by omega, ?_, fun p i hp hi e => ?_⟩
    · show sAll n v t + v (26 + 6 * t + n) = _
      rw [c2, j2, ii_add]
    · by_cases e1 : p = n
      · subst e1; rw [j2, ii_eq (by omega) (by omega)] at e; omega
      · have := c3 p i (by omega) hi e; omega
def shV (a c w : Nat) : Nat := if a = 0 then w else (if w = 0 then a else c) / Nat.gcd a c
theorem Y_share (d : Nat) {b : pS} {L : xA} {s : rT} {m n : Nat} (D : Dj L) (C : Cn s m n) (t p w a c : Nat) (ht : t < m) (hp : p < n) (hw : (0 : Int32) ≤ Int32.ofNat w ∧ Int32.ofNat w ≤ 1) (lw : w < 2) (ea : s.2 0 (26 + 6 * t + p) = Int32.ofNat a) (la : a ≤ 9999) (ec : sAll n (s.2 0) t = Int32.ofNat c) (lc : c ≤ 59994) : vcall (d + 6) m_Y_share [.ref 0, .int (Int32.ofNat t), .int (Int32.ofNat p), .int (Int32.ofNat w)] (xS b L s) = some (.inl (some (.int (Int32.ofNat (shV a c w)))), xS b L s) := by
  have C' := C
  obtain ⟨hm, h8, hn, h6⟩ := C'
  have lg : Nat.gcd a c ≤ 65535 := by
    rcases Nat.eq_zero_or_pos a with h | h
    · subst h; rw [Nat.gcd_zero_left]; omega
    · have := Nat.gcd_le_left c h; omega
  refine (vY D rfl).trans ((B_Y_share_0 _ _ _ _ _ _).trans ?_)
  simp (disch := omega) only [x0_gF D, sn_gF (SN_p D), sn_gI (SN_p D), xu_gF D, xu_gI D, xk_gF D, xk_gI D, x1_gF D, pl_ix, ii_m1, ii_s1, obs, wF_1, wF_2, wA_1, wA_2, wR_1, wR_2, Nat.reduceEqDiff, Nat.reduceAdd, Nat.reduceMul, if_true, if_false, ite_true, ite_false, ii_la, ii_al, ii_lm, ii_ml, ii_add, ii_mul, ii_1, ii_le, ii_lt, ii_c1, ii_c2, ii_c3, ii_c4, ii_c5, ii_n1, ii_nn, kC0_v, kC1_v, kC2_v, kC3_v, kC0_x, kC1_x, kC2_x, not_true_eq_false, not_false_eq_true, ne_eq, nS_ok (d + 3) D hm h8 ht, nP_ok (d + 3) D hn (show n ≤ 8 by omega) hp, nR_ok (d + 3) D hw, c_S_amount (d + 3) (SN_p D), c_S_onSeat (d + 2) (SN_p D) C, ea, ec, c_Y_gcd (d + 4), ii_div]
  unfold shV
  by_cases ha : a = 0
  · rw [if_pos ha, if_pos ha]
    have : w = 0 ∨ w = 1 := by omega
    rcases this with rfl | rfl
    · rw [if_neg (by decide)]; rfl
    · rw [if_pos (by decide)]; rfl
  · have hg : ¬ Nat.gcd a c = 0 := fun h => ha (Nat.eq_zero_of_gcd_eq_zero_left h)
    rw [if_neg ha, if_neg ha, if_pos hg, if_neg hg, if_neg hg]
    by_cases h0 : w = 0
    · rw [if_neg (fun g => g h0), if_pos h0]
    · rw [if_pos h0, if_neg h0]
theorem R_share (d : Nat) (b : pS) (τ : rT) {m n : Nat} (C : rCn τ m n) (t p w a c : Nat) (ht : t < m) (hp : p < n) (hw : (0 : Int32) ≤ Int32.ofNat w ∧ Int32.ofNat w ≤ 1) (lw : w < 2) (ea : τ.2 48 (26 + 6 * t + p) = Int32.ofNat a) (la : a ≤ 9999) (ec : sAll n (τ.2 48) t = Int32.ofNat c) (lc : c ≤ 59994) (lac : a ≤ c) : vcall (d + 6) m_R_share [.ref 30, .int (Int32.ofNat t), .int (Int32.ofNat p), .int (Int32.ofNat w)] (mS b τ) = some (.inl (some (.int (Int32.ofNat (shV a c w)))), mS b (wR (wF τ 0 0) 49 (τ.2 48))) := by
  obtain ⟨hm, h8, hn, h6⟩ := C
  have hn1 : (wR (wF τ 0 0) 49 (τ.2 48)).1 23 = Int32.ofNat n := hn
  refine (vR rfl).trans ((B_R_share_0 _ _ _ _ _ _).trans ?_)
  have eA := c_R_allOn (d + 4) b (wR (wF τ 0 0) 49 (τ.2 48)) n hn1 h6 t (by omega)
  rw [wR_g, ec] at eA
  simp (disch := omega) only [m_gF, m_gI, m_pI, m_gIl, m_pIl, ii_m1, ii_s1, m_pF, obs, wF_1, wF_2, wA_1, wA_2, wR_1, wR_2, Nat.reduceEqDiff, Nat.reduceAdd, Nat.reduceMul, if_true, if_false, ite_true, ite_false, ii_la, ii_al, ii_lm, ii_ml, ii_add, ii_mul, ii_1, ii_le, ii_lt, ii_c1, ii_c2, ii_c3, ii_c4, ii_c5, ii_n1, ii_nn, kC0_v, kC1_v, kC2_v, kC3_v, kC0_x, kC1_x, kC2_x, not_true_eq_false, not_false_eq_true, ne_eq, iS_ok (d + 3) hm h8 ht, iP_ok (d + 3) hn (show n ≤ 8 by omega) hp, rw_ok (d + 4) _ hw, rm_ok (d + 4), i10, eq_self, c_R_take (d + 3), eA, ea, ij_o]
  unfold shV
  by_cases hc : c = 0
  · have ha : a = 0 := by omega
    rw [if_neg (fun g => g hc), if_pos ha]
  · rw [if_pos hc]
    have hg : ¬ Nat.gcd a c = 0 := fun h => hc (Nat.eq_zero_of_gcd_eq_zero_right h)
    rw [c_R_least (d + 4) _ a c w (by omega) (by omega) hg lw, kC2_v, Int64.toInt32_ofNat']
    by_cases ha : a = 0
    · subst ha
      rw [if_pos rfl, Nat.gcd_zero_left]
      have : w = 0 ∨ w = 1 := by omega
      rcases this with rfl | rfl
      · rw [if_pos rfl, Nat.zero_div]
      · rw [if_neg (by decide), Nat.div_self (by omega)]
    · rw [if_neg ha]
theorem P_share {S : pS} {L : xA} {s τ : rT} {m n q : Nat} {l : List Nat} (I : Iv S L s τ m n q l) (hd : RD s τ) (t : Int32) (p : Int32) (w : Int32) : Pr m_L_share m_R_share [.int t, .int p, .int w] S := by
  have I' := I; obtain ⟨D, A, hx, hr, ho, ⟨C, Cr, ⟨q1, q2, q3⟩, hy, hdy, hdk, xl, rl, hb1, hb2⟩, ⟨⟨tk, k1, k2, k3⟩, tb, tf, tr⟩, ⟨e48, hsc⟩, rc⟩ := I'; have C' := C; have Cr' := Cr; obtain ⟨hm, h8, hn, h6⟩ := C'; obtain ⟨hm', -, hn', -⟩ := Cr'
  have hL := (cR (d := 199) (M := m_L_share) (as := [.ref 0, .int t, .int p, .int w, .ref 58]) (s := S)).trans (B_L_share_0 _ _ _ _ _ _ _)
  by_cases h0_ : 0 ≤ t ∧ t < Int32.ofNat m
  · obtain ⟨t, lt, rfl⟩ := ii_ex (by omega) h0_.1 h0_.2
    by_cases h1_ : 0 ≤ p ∧ p < Int32.ofNat n
    · obtain ⟨p, lp, rfl⟩ := ii_ex (by omega) h1_.1 h1_.2
      by_cases h2_ : (0 : Int32) ≤ w ∧ w ≤ 1
      · obtain ⟨w, lw, rfl⟩ := ii_ex (n := 2) (by decide) (Int32.le_trans (show (0 : Int32) ≤ 0 by decide) h2_.1) (Int32.lt_of_le_of_lt h2_.2 (by decide))
        obtain ⟨a, la, ea⟩ := hsc.2.2.2.1 t p (by omega) (by omega)
        obtain ⟨c, lc, ec, hc⟩ := sAll_n (n := n) (t := t) h6 (fun p hp => hsc.2.2.2.1 t p (by omega) hp)
        exact P_q I hd hL ⟨s, Kf.rf _ _ s, Y_share 193 D C t p w a c lt lp h2_ lw ea la ec (by omega)⟩ (fun b => ⟨wR (wF τ 0 0) 49 (τ.2 48), e_T1 τ, rfl, R_share 194 b τ Cr t p w a c lt lp h2_ lw (by rw [← e48]; exact ea) la (by rw [← e48]; exact ec) (by omega) (hc p a lp la ea)⟩)
      · have ya : ∀ d, vcall (d + 4) m_Y_share [.ref 0, .int (Int32.ofNat t), .int (Int32.ofNat p), .int w] (xS S L s) = xA0 S L s := fun d => by
          refine (vY D rfl).trans ((B_Y_share_0 _ _ _ _ _ _).trans ?_)
          simp only [nS_ok (d + 1) D hm h8 lt, nP_ok (d + 1) D hn (show n ≤ 8 by omega) lp, kC0_v]
          rw [nR_no (d + 1) D h2_]
          rfl
        have ra : ∀ d b, vcall (d + 3) m_R_share [.ref 30, .int (Int32.ofNat t), .int (Int32.ofNat p), .int w] (mS b τ) = some (.inl (some (.int 0)), mS b (rN τ 2 1)) := fun d b => by
          refine (vR rfl).trans ((B_R_share_0 _ _ _ _ _ _).trans ?_)
          simp only [m_pF, obs, iS_ok d hm' h8 lt, iP_ok d hn' (show n ≤ 8 by omega) lp, rw_no (d + 1) _ h2_, rm_n1 (d + 1) (show (2 : Int32) ≠ 0 by decide), kC1_v, i10, eq_self, if_true, if_false, not_true_eq_false, not_false_eq_true]
        exact P_a (k := 2) I hd hL (fun _ _ => rfl) (by decide) (ya 195) (ra 197)
    · have ya : ∀ d, vcall (d + 4) m_Y_share [.ref 0, .int (Int32.ofNat t), .int p, .int w] (xS S L s) = xE0 S L s := fun d => by
        refine (vY D rfl).trans ((B_Y_share_0 _ _ _ _ _ _).trans ?_)
        simp only [nS_ok (d + 1) D hm h8 lt, kC0_v]
        rw [nP_no (d + 1) D (by rw [hn]; exact h1_)]
        rfl
      have ra : ∀ d b, vcall (d + 3) m_R_share [.ref 30, .int (Int32.ofNat t), .int p, .int w] (mS b τ) = some (.inl (some (.int 0)), mS b (rN τ 1 0)) := fun d b => by
        refine (vR rfl).trans ((B_R_share_0 _ _ _ _ _ _).trans ?_)
        simp only [m_pF, obs, iS_ok d hm' h8 lt, iP_no d hn' (show n ≤ 8 by omega) h1_ (show (1 : Int32) ≠ 0 by decide), kC1_v, i10, eq_self, if_true, if_false, not_true_eq_false, not_false_eq_true]
      exact P_e (k := 1) I hd hL (fun _ _ => rfl) (by decide) (ya 195) (ra 197)
  · have ya : ∀ d, vcall (d + 4) m_Y_share [.ref 0, .int t, .int p, .int w] (xS S L s) = xE0 S L s := fun d => by
      refine (vY D rfl).trans ((B_Y_share_0 _ _ _ _ _ _).trans ?_)
      rw [nS_no (d + 1) D (by rw [hm]; exact h0_)]
      rfl
    have ra : ∀ d b, vcall (d + 3) m_R_share [.ref 30, .int t, .int p, .int w] (mS b τ) = some (.inl (some (.int 0)), mS b (rN τ 1 0)) := fun d b => by
      refine (vR rfl).trans ((B_R_share_0 _ _ _ _ _ _).trans ?_)
      simp only [m_pF, obs, iS_no d hm' h8 h0_ (show (1 : Int32) ≠ 0 by decide), kC1_v, i10, eq_self, if_true, if_false, not_true_eq_false, not_false_eq_true]
    exact P_e (k := 1) I hd hL (fun _ _ => rfl) (by decide) (ya 195) (ra 197)
/-- what one has of two who would get up -/
def hsI (a c e i j : Int32) : Int32 := if ¬ i = j then (if ¬ i = 1 then 0 else e) else (if ¬ i = 0 then c else a)
theorem c_Y_has (d : Nat) (s : pS) (a c e i j : Int32) : call (d + 1) m_Y_has [.int a, .int c, .int e, .int i, .int j] s = some (.inl (some (.int (hsI a c e i j))), s) := by
  refine cR.trans ((B_Y_has_0 _ _ _ _ _ _ _).trans ?_)
  unfold hsI
  split
  · split <;> rfl
  · split <;> rfl
theorem c_R_hasBy (d : Nat) (s : pS) (a c e i j : Int32) : call (d + 1) m_R_hasBy [.int i, .int j, .int a, .int c, .int e] s = some (.inl (some (.int (hsI a c e i j))), s) := by
  refine cR.trans ((B_R_hasBy_0 _ _ _ _ _ _ _).trans ?_)
  unfold hsI
  split
  · split <;> rfl
  · split <;> rfl
def rsI (a c e i j : Int32) : Int32 := if hsI a c e i j < hsI a c e (1 - i) j then 0 else if hsI a c e j i < hsI a c e (1 - j) i then 0 else 1
theorem c_Y_rests (d : Nat) (s : pS) (a c e i j : Int32) : call (d + 2) m_Y_rests [.int a, .int c, .int e, .int i, .int j] s = some (.inl (some (.int (rsI a c e i j))), s) := by
  refine cR.trans ((B_Y_rests_0 _ _ _ _ _ _ _).trans ?_)
  simp only [c_Y_has d, kC1_v]
  unfold rsI
  split
  · rfl
  · split <;> rfl
def guF (a c e : Int32) (k : Nat) (x : Int32 × Int32 × Int32) : Int32 × Int32 × Int32 := if rsI a c e (Int32.ofNat (k / 2)) (Int32.ofNat (k % 2)) = 0 then x else if x.2.1 = -1 then (x.1 + 1, Int32.ofNat (10 * (k / 2) + k % 2), hsI a c e (Int32.ofNat (k / 2)) (Int32.ofNat (k % 2)) + hsI a c e (Int32.ofNat (k % 2)) (Int32.ofNat (k / 2))) else (x.1 + 1, x.2.1, x.2.2)
def guV (a c e : Int32) (w : Nat) : Int32 := if w = 0 then (fo (guF a c e) 4 (0, -1, 0)).1 else if w = 1 then (fo (guF a c e) 4 (0, -1, 0)).2.1 else (fo (guF a c e) 4 (0, -1, 0)).2.2
theorem di_2 {k : Nat} (hk : k < 4) : Int32.ofNat k / 2 = Int32.ofNat (k / 2) ∧ Int32.ofNat k - Int32.ofNat (k / 2 * 2) = Int32.ofNat (k % 2) := ⟨ii_div (c := 2) (by omega) (by decide), by rw [ii_sub (by omega)]; congr 1; omega⟩
theorem Y_getsUp (d : Nat) {b : pS} {L : xA} {s : rT} (D : Dj L) (a c e : Int32) (w : Nat) (h1 : (0 : Int32) ≤ a ∧ a ≤ 99) (h2 : (0 : Int32) ≤ c ∧ c ≤ 99) (h3 : (0 : Int32) ≤ e ∧ e ≤ 99) (h4 : (0 : Int32) ≤ Int32.ofNat w ∧ Int32.ofNat w ≤ 2) (lw : w < 3) : vcall (d + 6) m_Y_getsUp [.ref 0, .int a, .int c, .int e, .int (Int32.ofNat w)] (xS b L s) = some (.inl (some (.int (guV a c e w))), xS b L s) := by
  refine (vY D rfl).trans ((B_Y_getsUp_0 _ _ _ _ _ _ _).trans ?_)
  simp only [nR_ok (d + 3) D h1, nR_ok (d + 3) D h2, nR_ok (d + 3) D h3, nR_ok (d + 3) D h4, kC0_v]
  obtain ⟨⟨x, v⟩, e1, i⟩ := ex_loop (F := fun k (x : (Int32 × Int32 × Int32) × Value × Value) => den (d + 5) m_Y_getsUp 44 [.ref 0, .int a, .int c, .int e, .int (Int32.ofNat w), .int x.1.1, .int x.1.2.1, .int x.1.2.2, .int (Int32.ofNat k), x.2.1, x.2.2] [] (xS b L s)) (I := fun k x => x.1 = fo (guF a c e) k (0, -1, 0)) 4 ((0, -1, 0), mk0, mk0) rfl (fun k x hk hx => by
    refine ⟨(guF a c e k x.1, .int (Int32.ofNat (k / 2)), .int (Int32.ofNat (k % 2))), ?_, congrArg (guF a c e k) hx⟩
    dsimp only
    rw [B_Y_getsUp_44]
    simp (disch := omega) only [(di_2 hk).1, (di_2 hk).2, c_Y_rests (d + 3), c_Y_has (d + 4), ii_m1, ii_s1, obs, wF_1, wF_2, wA_1, wA_2, wR_1, wR_2, Nat.reduceEqDiff, Nat.reduceAdd, Nat.reduceMul, if_true, if_false, ite_true, ite_false, ii_la, ii_al, ii_lm, ii_ml, ii_add, ii_mul, ii_1, ii_le, ii_lt, ii_c1, ii_c2, ii_c3, ii_c4, ii_c5, ii_n1, ii_nn, kC0_v, kC1_v, kC2_v, kC3_v, kC0_x, kC1_x, kC2_x, not_true_eq_false, not_false_eq_true, ne_eq]
    rw [if_neg (by omega)]
    unfold guF
    by_cases g1 : rsI a c e (Int32.ofNat (k / 2)) (Int32.ofNat (k % 2)) = 0
    · simp only [g1, if_true]
    · by_cases g2 : x.1.2.1 = -1
      · simp only [g1, g2, if_false, if_true, not_true_eq_false]
      · simp only [g1, g2, if_false, if_true, not_false_eq_true])
  refine e1.trans ?_
  dsimp only at i ⊢
  rw [B_Y_getsUp_44, if_pos (by decide), i]
  have : w = 0 ∨ w = 1 ∨ w = 2 := by omega
  rcases this with rfl | rfl | rfl <;> rfl
theorem R_getsUp (d : Nat) (b : pS) (τ : rT) (a c e : Int32) (w : Nat) (h1 : (0 : Int32) ≤ a ∧ a ≤ 99) (h2 : (0 : Int32) ≤ c ∧ c ≤ 99) (h3 : (0 : Int32) ≤ e ∧ e ≤ 99) (h4 : (0 : Int32) ≤ Int32.ofNat w ∧ Int32.ofNat w ≤ 2) (lw : w < 3) : vcall (d + 6) m_R_getsUp [.ref 30, .int a, .int c, .int e, .int (Int32.ofNat w)] (mS b τ) = some (.inl (some (.int (guV a c e w))), mS b (wF τ 0 0)) := by
  refine (vR rfl).trans ((B_R_getsUp_0 _ _ _ _ _ _ _).trans ?_)
  simp only [m_pF, obs, rw_ok (d + 4) _ h1, rw_ok (d + 4) _ h2, rw_ok (d + 4) _ h3, rw_ok (d + 4) _ h4, kC1_v, i10, eq_self, if_true, if_false, not_false_eq_true, B_R_getsUp_51, rm_ok (d + 4)]
  obtain ⟨⟨x, z, v⟩, e1, i, j1⟩ := ex_loop (F := fun k (x : (Int32 × Int32) × Int32 × Value × Value) => den (d + 5) m_R_getsUp 70 [.ref 30, .int a, .int c, .int e, .int (Int32.ofNat w), .int x.1.1, .int x.1.2, .int (Int32.ofNat k), x.2.2.1, x.2.2.2] [] (mS b (wF τ 0 0))) (I := fun k x => (x.1.1, x.1.2, x.2.1) = fo (guF a c e) k (0, -1, 0) ∧ ((x.1.2 = -1 ∧ x.2.1 = 0) ∨ ∃ i, i < 4 ∧ x.1.2 = Int32.ofNat (10 * (i / 2) + i % 2) ∧ x.2.1 = hsI a c e (Int32.ofNat (i / 2)) (Int32.ofNat (i % 2)) + hsI a c e (Int32.ofNat (i % 2)) (Int32.ofNat (i / 2)))) 4 ((0, -1), 0, mk0, mk0) ⟨rfl, Or.inl ⟨rfl, rfl⟩⟩ (fun k x hk hx => by
    obtain ⟨⟨x1, x2⟩, x3, v⟩ := x
    obtain ⟨i, j1⟩ := hx
    dsimp only at i j1
    have hG : guF a c e k (x1, x2, x3) = fo (guF a c e) (k + 1) (0, -1, 0) := congrArg (guF a c e k) i
    have rs : (rsI a c e (Int32.ofNat (k / 2)) (Int32.ofNat (k % 2)) = 0) = (hsI a c e (Int32.ofNat (k / 2)) (Int32.ofNat (k % 2)) < hsI a c e (1 - Int32.ofNat (k / 2)) (Int32.ofNat (k % 2)) ∨ hsI a c e (Int32.ofNat (k % 2)) (Int32.ofNat (k / 2)) < hsI a c e (1 - Int32.ofNat (k % 2)) (Int32.ofNat (k / 2))) := by
      unfold rsI
      apply propext
      split
      · simp [*]
      · split <;> simp [*]
    refine ⟨(((guF a c e k (x1, x2, x3)).1, (guF a c e k (x1, x2, x3)).2.1), (guF a c e k (x1, x2, x3)).2.2, .int (Int32.ofNat (k / 2)), .int (Int32.ofNat (k % 2))), ?_, hG, ?_⟩
    · dsimp only
      rw [B_R_getsUp_70]
      simp (disch := omega) only [(di_2 hk).1, (di_2 hk).2, c_R_hasBy (d + 4), ii_m1, ii_s1, obs, wF_1, wF_2, wA_1, wA_2, wR_1, wR_2, Nat.reduceEqDiff, Nat.reduceAdd, Nat.reduceMul, if_true, if_false, ite_true, ite_false, ii_la, ii_al, ii_lm, ii_ml, ii_add, ii_mul, ii_1, ii_le, ii_lt, ii_c1, ii_c2, ii_c3, ii_c4, ii_c5, ii_n1, ii_nn, kC0_v, kC1_v, kC2_v, kC3_v, kC0_x, kC1_x, kC2_x, not_true_eq_false, not_false_eq_true, ne_eq]
      rw [if_neg (by omega)]
      unfold guF
      simp only [rs]
      by_cases g1 : hsI a c e (Int32.ofNat (k / 2)) (Int32.ofNat (k % 2)) < hsI a c e (1 - Int32.ofNat (k / 2)) (Int32.ofNat (k % 2))
      · simp only [g1, true_or, if_true]
      · simp only [g1, false_or, if_false]
        by_cases g2 : hsI a c e (Int32.ofNat (k % 2)) (Int32.ofNat (k / 2)) < hsI a c e (1 - Int32.ofNat (k % 2)) (Int32.ofNat (k / 2))
        · rw [if_neg (Int32.not_le.mpr g2), if_pos g2]
        · rw [if_pos (Int32.not_lt.mp g2), if_neg g2]
          by_cases g3 : x2 = -1
          · simp only [g3, if_true, not_true_eq_false, if_false]
          · simp only [g3, if_false, not_false_eq_true, if_true]
    · dsimp only
      unfold guF
      by_cases g1 : rsI a c e (Int32.ofNat (k / 2)) (Int32.ofNat (k % 2)) = 0
      · simp only [g1, if_true]; exact j1
      · by_cases g2 : x2 = -1
        · simp only [g1, g2, if_false, if_true]; exact Or.inr ⟨k, hk, rfl, rfl⟩
        · simp only [g1, g2, if_false]
          rcases j1 with j1 | j1
          · exact absurd j1.1 g2
          · exact Or.inr j1)
  refine e1.trans ?_
  dsimp only at i j1 ⊢
  rw [B_R_getsUp_70, if_pos (by decide)]
  unfold guV
  rw [← i]
  have : w = 0 ∨ w = 1 ∨ w = 2 := by omega
  rcases this with rfl | rfl | rfl
  · rfl
  · rfl
  · rw [if_pos (by decide), if_pos (by decide)]
    dsimp only
    rcases j1 with ⟨j1, j2⟩ | ⟨i, hi, j1, j2⟩
    · rw [j1, j2, if_neg (by simp)]; rfl
    · rw [j1, j2]
      have : i = 0 ∨ i = 1 ∨ i = 2 ∨ i = 3 := by omega
      have d10 : Int32.ofNat (10 * (i / 2) + i % 2) / 10 = Int32.ofNat (i / 2) := by
        rw [show (10 : Int32) = Int32.ofNat 10 from rfl, ii_div (by omega) (by decide)]; congr 1; omega
      have m10 : Int32.ofNat (10 * (i / 2) + i % 2) - Int32.ofNat (10 * (i / 2) + i % 2) / 10 * 10 = Int32.ofNat (i % 2) := by
        rw [show (10 : Int32) = Int32.ofNat 10 from rfl, ii_mod (by omega) (by decide)]; congr 1; omega
      rw [d10] at m10
      rw [d10, m10, if_pos (by rw [ii_n1 (by omega)]; simp)]
      simp only [c_R_hasBy (d + 4), kC1_v]
      rfl
theorem P_getsUp {S : pS} {L : xA} {s τ : rT} {m n q : Nat} {l : List Nat} (I : Iv S L s τ m n q l) (hd : RD s τ) (a : Int32) (c : Int32) (e : Int32) (w : Int32) : Pr m_L_getsUp m_R_getsUp [.int a, .int c, .int e, .int w] S := by
  have I' := I; obtain ⟨D, A, hx, hr, ho, ⟨C, Cr, ⟨q1, q2, q3⟩, hy, hdy, hdk, xl, rl, hb1, hb2⟩, ⟨⟨tk, k1, k2, k3⟩, tb, tf, tr⟩, ⟨e48, hsc⟩, rc⟩ := I'; have C' := C; have Cr' := Cr; obtain ⟨hm, h8, hn, h6⟩ := C'; obtain ⟨hm', -, hn', -⟩ := Cr'
  have hL := (cR (d := 199) (M := m_L_getsUp) (as := [.ref 0, .int a, .int c, .int e, .int w, .ref 58]) (s := S)).trans (B_L_getsUp_0 _ _ _ _ _ _ _ _)
  by_cases h0_ : (0 : Int32) ≤ a ∧ a ≤ 99
  · obtain ⟨a, la, rfl⟩ := ii_ex (n := 100) (by decide) (Int32.le_trans (show (0 : Int32) ≤ 0 by decide) h0_.1) (Int32.lt_of_le_of_lt h0_.2 (by decide))
    by_cases h1_ : (0 : Int32) ≤ c ∧ c ≤ 99
    · obtain ⟨c, lc, rfl⟩ := ii_ex (n := 100) (by decide) (Int32.le_trans (show (0 : Int32) ≤ 0 by decide) h1_.1) (Int32.lt_of_le_of_lt h1_.2 (by decide))
      by_cases h2_ : (0 : Int32) ≤ e ∧ e ≤ 99
      · obtain ⟨e, le, rfl⟩ := ii_ex (n := 100) (by decide) (Int32.le_trans (show (0 : Int32) ≤ 0 by decide) h2_.1) (Int32.lt_of_le_of_lt h2_.2 (by decide))
        by_cases h3_ : (0 : Int32) ≤ w ∧ w ≤ 2
        · obtain ⟨w, lw, rfl⟩ := ii_ex (n := 3) (by decide) (Int32.le_trans (show (0 : Int32) ≤ 0 by decide) h3_.1) (Int32.lt_of_le_of_lt h3_.2 (by decide))
          exact P_q I hd hL ⟨s, Kf.rf _ _ s, Y_getsUp 193 D _ _ _ w h0_ h1_ h2_ h3_ lw⟩ (fun b => ⟨wF τ 0 0, e_T0 τ, rfl, R_getsUp 194 b τ _ _ _ w h0_ h1_ h2_ h3_ lw⟩)
        · have ya : ∀ d, vcall (d + 4) m_Y_getsUp [.ref 0, .int (Int32.ofNat a), .int (Int32.ofNat c), .int (Int32.ofNat e), .int w] (xS S L s) = xA0 S L s := fun d => by
            refine (vY D rfl).trans ((B_Y_getsUp_0 _ _ _ _ _ _ _).trans ?_)
            simp only [nR_ok (d + 1) D h0_, nR_ok (d + 1) D h1_, nR_ok (d + 1) D h2_, kC0_v]
            rw [nR_no (d + 1) D h3_]
            rfl
          have ra : ∀ d b, vcall (d + 3) m_R_getsUp [.ref 30, .int (Int32.ofNat a), .int (Int32.ofNat c), .int (Int32.ofNat e), .int w] (mS b τ) = some (.inl (some (.int 0)), mS b (rN τ 1 1)) := fun d b => by
            refine (vR rfl).trans ((B_R_getsUp_0 _ _ _ _ _ _ _).trans ?_)
            simp only [m_pF, obs, rw_ok (d + 1) _ h0_, rm_ok (d + 1), rw_ok (d + 1) _ h1_, rm_ok (d + 1), rw_ok (d + 1) _ h2_, rm_ok (d + 1), rw_no (d + 1) _ h3_, rm_n1 (d + 1) (show (1 : Int32) ≠ 0 by decide), kC1_v, i10, eq_self, if_true, if_false, not_true_eq_false, not_false_eq_true, B_R_getsUp_51]
          exact P_a (k := 1) I hd hL (fun _ _ => rfl) (by decide) (ya 195) (ra 197)
      · have ya : ∀ d, vcall (d + 4) m_Y_getsUp [.ref 0, .int (Int32.ofNat a), .int (Int32.ofNat c), .int e, .int w] (xS S L s) = xA0 S L s := fun d => by
          refine (vY D rfl).trans ((B_Y_getsUp_0 _ _ _ _ _ _ _).trans ?_)
          simp only [nR_ok (d + 1) D h0_, nR_ok (d + 1) D h1_, kC0_v]
          rw [nR_no (d + 1) D h2_]
          rfl
        have ra : ∀ d b, vcall (d + 3) m_R_getsUp [.ref 30, .int (Int32.ofNat a), .int (Int32.ofNat c), .int e, .int w] (mS b τ) = some (.inl (some (.int 0)), mS b (rN τ 1 1)) := fun d b => by
          refine (vR rfl).trans ((B_R_getsUp_0 _ _ _ _ _ _ _).trans ?_)
          simp only [m_pF, obs, rw_ok (d + 1) _ h0_, rm_ok (d + 1), rw_ok (d + 1) _ h1_, rm_ok (d + 1), rw_no (d + 1) _ h2_, rm_n1 (d + 1) (show (1 : Int32) ≠ 0 by decide), kC1_v, i10, eq_self, if_true, if_false, not_true_eq_false, not_false_eq_true, B_R_getsUp_51]
        exact P_a (k := 1) I hd hL (fun _ _ => rfl) (by decide) (ya 195) (ra 197)
    · have ya : ∀ d, vcall (d + 4) m_Y_getsUp [.ref 0, .int (Int32.ofNat a), .int c, .int e, .int w] (xS S L s) = xA0 S L s := fun d => by
        refine (vY D rfl).trans ((B_Y_getsUp_0 _ _ _ _ _ _ _).trans ?_)
        simp only [nR_ok (d + 1) D h0_, kC0_v]
        rw [nR_no (d + 1) D h1_]
        rfl
      have ra : ∀ d b, vcall (d + 3) m_R_getsUp [.ref 30, .int (Int32.ofNat a), .int c, .int e, .int w] (mS b τ) = some (.inl (some (.int 0)), mS b (rN τ 1 1)) := fun d b => by
        refine (vR rfl).trans ((B_R_getsUp_0 _ _ _ _ _ _ _).trans ?_)
        simp only [m_pF, obs, rw_ok (d + 1) _ h0_, rm_ok (d + 1), rw_no (d + 1) _ h1_, rm_n1 (d + 1) (show (1 : Int32) ≠ 0 by decide), kC1_v, i10, eq_self, if_true, if_false, not_true_eq_false, not_false_eq_true, B_R_getsUp_51]
      exact P_a (k := 1) I hd hL (fun _ _ => rfl) (by decide) (ya 195) (ra 197)
  · have ya : ∀ d, vcall (d + 4) m_Y_getsUp [.ref 0, .int a, .int c, .int e, .int w] (xS S L s) = xA0 S L s := fun d => by
      refine (vY D rfl).trans ((B_Y_getsUp_0 _ _ _ _ _ _ _).trans ?_)
      rw [nR_no (d + 1) D h0_]
      rfl
    have ra : ∀ d b, vcall (d + 3) m_R_getsUp [.ref 30, .int a, .int c, .int e, .int w] (mS b τ) = some (.inl (some (.int 0)), mS b (rN τ 1 1)) := fun d b => by
      refine (vR rfl).trans ((B_R_getsUp_0 _ _ _ _ _ _ _).trans ?_)
      simp only [m_pF, obs, rw_no (d + 1) _ h0_, rm_n1 (d + 1) (show (1 : Int32) ≠ 0 by decide), kC1_v, i10, eq_self, if_true, if_false, not_true_eq_false, not_false_eq_true, B_R_getsUp_51]
    exact P_a (k := 1) I hd hL (fun _ _ => rfl) (by decide) (ya 195) (ra 197)
