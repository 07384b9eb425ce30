/-! CALLS that ask: well, meals, need, food -/
def PrL (ML MR : Nat) (as : List Value) (S : pS) : Prop := ∃ (k : Int32) (S1 : pS) (w : Int64) (S2 : pS), call 200 ML (.ref 0 :: (as ++ [.ref 58])) S = some (.inl (some (.int k)), S1) ∧ vcall 200 MR (.ref 30 :: as) S1 = some (.inl (some (.long w)), S2) ∧ Th S2 k ∧ (k = 0 → ∃ f, S2.2.2 58 = some (cL 1 f) ∧ f 0 = w) ∧ Gd S S2 ∧ ∀ j, S2.1 ≤ j → S1.2.2 j = S.2.2 j
theorem P_vL {ML MY MR : Nat} {as : List Value} {S S1 : pS} {L : xA} {s s' τ : rT} {m n q : Nat} {l : List Nat} {H : Nat → Nat → pS → pR} {v : Int64} (I : Iv S L s τ m n q l) (hd : RD s τ) (hL : call 200 ML (.ref 0 :: (as ++ [.ref 58])) S = kC2 (vcall 199 MY (.ref 0 :: as) S) (fun v s1 => (pL s1 58 0 v).bind fun s6 => some (.inl (some (.int 0)), s6)) H) (G : Go S S1 L s') (hs : Ex0 s s') (hX : vcall 199 MY (.ref 0 :: as) S = some (.inl (some (.long v)), S1)) (hR : ∀ b, ∃ τ', Er0 τ τ' ∧ τ'.1 0 = 0 ∧ vcall 200 MR (.ref 30 :: as) (mS b τ) = some (.inl (some (.long v)), mS b τ')) : PrL ML MR as S := by
  have I' := I
  obtain ⟨D, A, hx, hm, ⟨f, hf⟩, -⟩ := I'
  have hq : 59 ≤ S.1 := A.1
  have hf1 : S1.2.2 58 = some (cL 1 f) := (G.2.1 58 (by omega) (Ot_58 D)).trans hf
  obtain ⟨o1, o2, o3⟩ := G.o D A (cL 1 (vp_updL f 0 v)) G.1
  have hm1 : pSet S1 58 (cL 1 (vp_updL f 0 v)) = mS (pSet S1 58 (cL 1 (vp_updL f 0 v))) τ := mS_in hm (fun j h1 h2 => by
    show (if j = 58 then _ else _) = _
    rw [if_neg (by omega)]; exact G.2.1 j (by omega) (Ot_ref D h1 (by omega)))
  obtain ⟨τ', k1, k2, k3⟩ := hR (pSet S1 58 (cL 1 (vp_updL f 0 v)))
  rw [← hm1] at k3
  have hG : Go S (pSet S1 58 (cL 1 (vp_updL f 0 v))) L s' → True := fun _ => trivial
  have e58 : (pSet S1 58 (cL 1 (vp_updL f 0 v))).2.2 58 = some (cL 1 (vp_updL f 0 v)) := by
    show (if 58 = 58 then some (cL 1 (vp_updL f 0 v)) else S1.2.2 58) = some (cL 1 (vp_updL f 0 v))
    rw [if_pos rfl]
  refine ⟨0, _, v, _, ?_, k3, ⟨τ', (mS_mS _ τ' τ').symm, k2⟩, fun _ => ⟨vp_updL f 0 v, ?_, ?_⟩, ⟨⟨L, s', τ', m, n, q, l, ?_, ?_⟩, G.2.2.2.1, ?_, ?_, fun j hj => ?_⟩, fun j hj => o3 j hj⟩
  · rw [hL, hX, kC2_v, pL_58 hf1, obs]
  · rw [mS_out (by omega)]; exact e58
  · unfold vp_updL; simp
  · refine Iv_q I hs.x k1.r (xS_in o1 (fun j o => ?_)) (mS_mS _ τ' τ').symm ⟨_, (mS_out (by omega)).trans e58⟩ G.2.2.2.1 (fun j h1 h2 o => ?_)
    · by_cases h : j < 30 ∨ 58 ≤ j
      · exact mS_out h
      · exact absurd (Ot_ref D (by omega) (by omega)) o
    · rw [mS_out (by omega)]; exact o2 j h1 h2 o
  · refine ⟨?_, ?_⟩
    · rw [hs.1 12 (by decide), k1.2 31 (by decide)]; exact hd.1
    · rw [hs.1 13 (by decide), k1.2 31 (by decide)]; exact hd.2
  · have := G.2.2.2.2.1; show S1.1 ≤ _; omega
  · have := G.2.2.2.2.2; show S1.2.1 ≤ _; omega
  · have h3 : S1.1 ≤ j := hj
    have h4 := G.2.2.2.1
    rw [mS_out (by omega)]; exact o3 j hj
theorem P_xL {ML MY MR : Nat} {as : List Value} {S : pS} {L : xA} {s s' τ : rT} {m n q : Nat} {l : List Nat} {H : Nat → Nat → pS → pR} {c : Nat} {k : Int32} (I : Iv S L s τ m n q l) (hL : call 200 ML (.ref 0 :: (as ++ [.ref 58])) S = kC2 (vcall 199 MY (.ref 0 :: as) S) (fun v s1 => (pL s1 58 0 v).bind fun s6 => some (.inl (some (.int 0)), s6)) H) (hH : ∀ i s, H c i s = some (.inl (some (.int k)), s)) (hk : k ≠ 0) (hs : Ex s s') (hX : vcall 199 MY (.ref 0 :: as) S = some (.inr (c, S.1), pEx (xS S L s'))) {τ' : rT} (ht : Er τ τ') (h0 : τ'.1 0 = k) (hd : RD s' τ') (hR : ∀ b, vcall 200 MR (.ref 30 :: as) (mS b τ) = some (.inl (some (.long 0)), mS b τ')) : PrL ML MR as S := by
  have I' := I
  obtain ⟨D, A, hx, hm, ⟨f, hf⟩, -⟩ := I'
  have hq : 59 ≤ S.1 := A.1
  have G : Go S (pEx (xS S L s')) L s' := Go.x A
  have hm1 : pEx (xS S L s') = mS (pEx (xS S L s')) τ := mS_in hm (fun j h1 h2 => G.2.1 j (by omega) (Ot_ref D h1 (by omega)))
  have k3 := hR (pEx (xS S L s'))
  rw [← hm1] at k3
  obtain ⟨g1, g2⟩ := Gd_of I G hs ht hd f ((G.2.1 58 (by omega) (Ot_58 D)).trans hf)
  refine ⟨k, _, 0, _, ?_, k3, ⟨τ', (mS_mS _ τ' τ').symm, h0⟩, fun h => absurd h hk, g1, g2⟩
  rw [hL, hX, kC2_x]
  exact hH _ _
theorem P_aL {ML MY MR : Nat} {as : List Value} {S : pS} {L : xA} {s τ : rT} {m n q : Nat} {l : List Nat} {H : Nat → Nat → pS → pR} {k : Int32} (I : Iv S L s τ m n q l) (hd : RD s τ) (hL : call 200 ML (.ref 0 :: (as ++ [.ref 58])) S = kC2 (vcall 199 MY (.ref 0 :: as) S) (fun v s1 => (pL s1 58 0 v).bind fun s6 => some (.inl (some (.int 0)), s6)) H) (hH : ∀ i s, H 0 i s = some (.inl (some (.int k)), s)) (hk : k ≠ 0) (hX : vcall 199 MY (.ref 0 :: as) (xS S L s) = xA0 S L s) (hR : ∀ b, vcall 200 MR (.ref 30 :: as) (mS b τ) = some (.inl (some (.long 0)), mS b (rN τ k 1))) : PrL ML MR as S := by
  have hx := I.2.2.1
  rw [← hx] at hX
  exact P_xL I hL hH hk ((Kf.rf _ _ s).wF (by decide) _) hX (rN_r τ k 1) (rN_0 τ k 1) (RD_a hd k) hR
theorem P_qL {ML MY MR : Nat} {as : List Value} {S : pS} {L : xA} {s τ : rT} {m n q : Nat} {l : List Nat} {H : Nat → Nat → pS → pR} {v : Int64} (I : Iv S L s τ m n q l) (hd : RD s τ) (hL : call 200 ML (.ref 0 :: (as ++ [.ref 58])) S = kC2 (vcall 199 MY (.ref 0 :: as) S) (fun v s1 => (pL s1 58 0 v).bind fun s6 => some (.inl (some (.int 0)), s6)) H) (hX : ∃ s', Ex0 s s' ∧ vcall 199 MY (.ref 0 :: as) (xS S L s) = some (.inl (some (.long v)), xS S L s')) (hR : ∀ b, ∃ τ', Er0 τ τ' ∧ τ'.1 0 = 0 ∧ vcall 200 MR (.ref 30 :: as) (mS b τ) = some (.inl (some (.long v)), mS b τ')) : PrL ML MR as S := by
  obtain ⟨s', hs, hX⟩ := hX
  have hx := I.2.2.1
  rw [← hx] at hX
  exact P_vL I hd hL (Go.q (s := s) I.2.1 s') hs hX hR
def wlB (q w : Nat) : Nat := (if w = 0 then 16 - q else 16) / Nat.gcd (16 - q) 16
theorem wl_e : ∀ q : Fin 17, ∀ k : Fin 13, ∀ w : Fin 2, (if w.val = 0 then (16 - q.val) ^ k.val else 16 ^ k.val) / Nat.gcd ((16 - q.val) ^ k.val) (16 ^ k.val) = wlB q.val w.val ^ k.val := by decide +kernel
theorem wl_g : ∀ q : Fin 17, 1 ≤ Nat.gcd (16 - q.val) 16 ∧ Nat.gcd (16 - q.val) 16 ≤ 16 := by decide +kernel
theorem wl_p : ∀ q : Fin 17, ∀ k : Fin 13, (16 - q.val) ^ k.val < 9223372036854775808 ∧ 16 ^ k.val < 9223372036854775808 ∧ Nat.gcd ((16 - q.val) ^ k.val) (16 ^ k.val) ≠ 0 := by decide +kernel
theorem Y_well (d : Nat) {b : pS} {L : xA} {s : rT} (D : Dj L) (q k w : Nat) (h1 : (0 : Int32) ≤ Int32.ofNat q ∧ Int32.ofNat q ≤ 16) (lq : q < 17) (h2 : (0 : Int32) ≤ Int32.ofNat k ∧ Int32.ofNat k ≤ 12) (lk : k < 13) (h3 : (0 : Int32) ≤ Int32.ofNat w ∧ Int32.ofNat w ≤ 1) (lw : w < 2) : vcall (d + 6) m_Y_well [.ref 0, .int (Int32.ofNat q), .int (Int32.ofNat k), .int (Int32.ofNat w)] (xS b L s) = some (.inl (some (.long (Int64.ofNat (wlB q w ^ k)))), xS b L s) := by
  obtain ⟨g1, g2⟩ := wl_g ⟨q, lq⟩
  dsimp only at g1 g2
  refine (vY D rfl).trans ((B_Y_well_0 _ _ _ _ _ _).trans ?_)
  have e16 : (16 : Int32) - Int32.ofNat q = Int32.ofNat (16 - q) := ii_sub (a := 16) (by omega)
  have ed : ∀ x, x < 65536 → Int32.ofNat x / Int32.ofNat (Nat.gcd (16 - q) 16) = Int32.ofNat (x / Nat.gcd (16 - q) 16) := fun x hx => ii_div (by omega) (by omega)
  have eg : (if (1 : Int32) < Int32.ofNat (Nat.gcd (16 - q) 16) then Int32.ofNat (Nat.gcd (16 - q) 16) else 1) = Int32.ofNat (Nat.gcd (16 - q) 16) := by
    simp (disch := omega) only [ii_m1, ii_s1, obs, wF_1, wF_2, wA_1, wA_2, wR_1, wR_2, Nat.reduceEqDiff, Nat.reduceAdd, Nat.reduceMul, if_true, if_false, ite_true, ite_false, ii_la, ii_al, ii_lm, ii_ml, ii_add, ii_mul, ii_1, ii_le, ii_lt, ii_c1, ii_c2, ii_c3, ii_c4, ii_c5, ii_n1, ii_nn, kC0_v, kC1_v, kC2_v, kC3_v, kC0_x, kC1_x, kC2_x, not_true_eq_false, not_false_eq_true, ne_eq]
    by_cases h : 1 < Nat.gcd (16 - q) 16
    · rw [if_pos h]
    · rw [if_neg h, show Nat.gcd (16 - q) 16 = 1 by omega]; rfl
  have eG := c_Y_gcd (d + 4) (xS b L s) (16 - q) 16 (by omega) (by decide)
  have eG' : call (d + 5) m_Y_greatestCommon [.int (Int32.ofNat (16 - q)), .int 16] (xS b L s) = some (.inl (some (.int (Int32.ofNat (Nat.gcd (16 - q) 16)))), xS b L s) := eG
  simp only [nR_ok (d + 3) D h1, nR_ok (d + 3) D h2, nR_ok (d + 3) D h3, kC0_v, e16, eG', kC1_v, eg]
  have h0 : ¬ Int32.ofNat (Nat.gcd (16 - q) 16) = 0 := by simp (disch := omega) only [ii_m1, ii_s1, obs, wF_1, wF_2, wA_1, wA_2, wR_1, wR_2, Nat.reduceEqDiff, Nat.reduceAdd, Nat.reduceMul, if_true, if_false, ite_true, ite_false, ii_la, ii_al, ii_lm, ii_ml, ii_add, ii_mul, ii_1, ii_le, ii_lt, ii_c1, ii_c2, ii_c3, ii_c4, ii_c5, ii_n1, ii_nn, kC0_v, kC1_v, kC2_v, kC3_v, kC0_x, kC1_x, kC2_x, not_true_eq_false, not_false_eq_true, ne_eq]; omega
  have loop : ∀ B : Nat, den (d + 5) m_Y_well 69 [.ref 0, .int (Int32.ofNat q), .int (Int32.ofNat k), .int (Int32.ofNat w), .int (Int32.ofNat (16 - q)), .int (Int32.ofNat (Nat.gcd (16 - q) 16)), .long (Int64.ofNat B), mk0, .long 1, mk0, .int 0] [] (xS b L s) = some (.inl (some (.long (Int64.ofNat (B ^ k)))), xS b L s) := by
    intro B
    obtain ⟨x, e, i⟩ := ex_loop (F := fun j (x : Int64) => den (d + 5) m_Y_well 69 [.ref 0, .int (Int32.ofNat q), .int (Int32.ofNat k), .int (Int32.ofNat w), .int (Int32.ofNat (16 - q)), .int (Int32.ofNat (Nat.gcd (16 - q) 16)), .long (Int64.ofNat B), mk0, .long x, mk0, .int (Int32.ofNat j)] [] (xS b L s)) (I := fun j x => x = Int64.ofNat (B ^ j)) k 1 rfl (fun j x hj hx => by
      refine ⟨x * Int64.ofNat B, ?_, by rw [hx, jj_mul, Nat.pow_succ]⟩
      rw [B_Y_well_69]
      simp (disch := omega) only [ii_m1, ii_s1, obs, wF_1, wF_2, wA_1, wA_2, wR_1, wR_2, Nat.reduceEqDiff, Nat.reduceAdd, Nat.reduceMul, if_true, if_false, ite_true, ite_false, ii_la, ii_al, ii_lm, ii_ml, ii_add, ii_mul, ii_1, ii_le, ii_lt, ii_c1, ii_c2, ii_c3, ii_c4, ii_c5, ii_n1, ii_nn, kC0_v, kC1_v, kC2_v, kC3_v, kC0_x, kC1_x, kC2_x, not_true_eq_false, not_false_eq_true, ne_eq]
      rw [if_neg (by omega)])
    refine e.trans ?_
    rw [B_Y_well_69]
    simp (disch := omega) only [ii_m1, ii_s1, obs, wF_1, wF_2, wA_1, wA_2, wR_1, wR_2, Nat.reduceEqDiff, Nat.reduceAdd, Nat.reduceMul, if_true, if_false, ite_true, ite_false, ii_la, ii_al, ii_lm, ii_ml, ii_add, ii_mul, ii_1, ii_le, ii_lt, ii_c1, ii_c2, ii_c3, ii_c4, ii_c5, ii_n1, ii_nn, kC0_v, kC1_v, kC2_v, kC3_v, kC0_x, kC1_x, kC2_x, not_true_eq_false, not_false_eq_true, ne_eq]
    rw [if_pos (Nat.le_refl k), i]
  have dl : ∀ x, x / Nat.gcd (16 - q) 16 ≤ x := fun x => Nat.div_le_self _ _
  have : w = 0 ∨ w = 1 := by omega
  rcases this with rfl | rfl
  · rw [if_neg (by decide), if_neg h0, ed _ (by omega), ij_o (by have := dl (16 - q); omega), loop]
    rfl
  · have d16 := ed 16 (by decide)
    have d16' : (16 : Int32) / Int32.ofNat (Nat.gcd (16 - q) 16) = Int32.ofNat (16 / Nat.gcd (16 - q) 16) := d16
    rw [if_pos (by decide), if_neg h0, d16', ij_o (by have := dl 16; omega), loop]
    rfl
theorem R_well (d : Nat) (b : pS) (τ : rT) (q k w : Nat) (h1 : (0 : Int32) ≤ Int32.ofNat q ∧ Int32.ofNat q ≤ 16) (lq : q < 17) (h2 : (0 : Int32) ≤ Int32.ofNat k ∧ Int32.ofNat k ≤ 12) (lk : k < 13) (h3 : (0 : Int32) ≤ Int32.ofNat w ∧ Int32.ofNat w ≤ 1) (lw : w < 2) : vcall (d + 6) m_R_well [.ref 30, .int (Int32.ofNat q), .int (Int32.ofNat k), .int (Int32.ofNat w)] (mS b τ) = some (.inl (some (.long (Int64.ofNat (wlB q w ^ k)))), mS b (wF τ 0 0)) := by
  have e16 : (16 : Int32) - Int32.ofNat q = Int32.ofNat (16 - q) := ii_sub (a := 16) (by omega)
  obtain ⟨p1, p2, p3⟩ := wl_p ⟨q, lq⟩ ⟨k, lk⟩
  dsimp only at p1 p2 p3
  refine (vR rfl).trans ((B_R_well_0 _ _ _ _ _ _).trans ?_)
  simp only [m_pF, obs, rw_ok (d + 4) _ h1, rw_ok (d + 4) _ h2, rw_ok (d + 4) _ h3, kC1_v, i10, eq_self, if_true, if_false, not_false_eq_true, B_R_well_40, rm_ok (d + 4)]
  obtain ⟨x, e, i1, i2⟩ := ex_loop (F := fun j (x : Int64 × Int64) => den (d + 5) m_R_well 59 [.ref 30, .int (Int32.ofNat q), .int (Int32.ofNat k), .int (Int32.ofNat w), .long x.1, mk0, .long x.2, mk0, .int (Int32.ofNat j)] [] (mS b (wF τ 0 0))) (I := fun j x => x.1 = Int64.ofNat ((16 - q) ^ j) ∧ x.2 = Int64.ofNat (16 ^ j)) k (1, 1) ⟨rfl, rfl⟩ (fun j x hj hx => by
    refine ⟨(x.1 * Int64.ofNat (16 - q), x.2 * 16), ?_, by rw [hx.1, jj_mul, Nat.pow_succ], by rw [hx.2, show (16 : Int64) = Int64.ofNat 16 from rfl, jj_mul, Nat.pow_succ]⟩
    rw [B_R_well_59]
    simp (disch := omega) only [ii_m1, ii_s1, obs, wF_1, wF_2, wA_1, wA_2, wR_1, wR_2, Nat.reduceEqDiff, Nat.reduceAdd, Nat.reduceMul, if_true, if_false, ite_true, ite_false, ii_la, ii_al, ii_lm, ii_ml, ii_add, ii_mul, ii_1, ii_le, ii_lt, ii_c1, ii_c2, ii_c3, ii_c4, ii_c5, ii_n1, ii_nn, kC0_v, kC1_v, kC2_v, kC3_v, kC0_x, kC1_x, kC2_x, not_true_eq_false, not_false_eq_true, ne_eq, e16, ij_o]
    rw [if_neg (by omega)])
  refine e.trans ?_
  rw [B_R_well_59, i1, i2]
  simp (disch := omega) only [ii_m1, ii_s1, obs, wF_1, wF_2, wA_1, wA_2, wR_1, wR_2, Nat.reduceEqDiff, Nat.reduceAdd, Nat.reduceMul, if_true, if_false, ite_true, ite_false, ii_la, ii_al, ii_lm, ii_ml, ii_add, ii_mul, ii_1, ii_le, ii_lt, ii_c1, ii_c2, ii_c3, ii_c4, ii_c5, ii_n1, ii_nn, kC0_v, kC1_v, kC2_v, kC3_v, kC0_x, kC1_x, kC2_x, not_true_eq_false, not_false_eq_true, ne_eq]
  rw [if_pos (Nat.le_refl k), c_R_least (d + 4) _ _ _ w p1 p2 p3 lw, kC2_v]
  have := wl_e ⟨q, lq⟩ ⟨k, lk⟩ ⟨w, lw⟩
  dsimp only at this
  rw [this]
theorem P_well {S : pS} {L : xA} {s τ : rT} {m n q : Nat} {l : List Nat} (I : Iv S L s τ m n q l) (hd : RD s τ) (qq : Int32) (k : Int32) (w : Int32) : PrL m_L_well m_R_well [.int qq, .int k, .int w] S := by
  have I' := I; obtain ⟨D, A, hx, hr, ho, ⟨C, Cr, ⟨q1, q2, q3⟩, hy, hdy, hdk, xl, rl, hb1, hb2⟩, ⟨⟨tk, k1, k2, k3⟩, tb, tf, tr⟩, ⟨e48, hsc⟩, rc⟩ := I'; have C' := C; have Cr' := Cr; obtain ⟨hm, h8, hn, h6⟩ := C'; obtain ⟨hm', -, hn', -⟩ := Cr'
  have hL := (cR (d := 199) (M := m_L_well) (as := [.ref 0, .int qq, .int k, .int w, .ref 58]) (s := S)).trans (B_L_well_0 _ _ _ _ _ _ _)
  by_cases h0_ : (0 : Int32) ≤ qq ∧ qq ≤ 16
  · obtain ⟨qq, lqq, rfl⟩ := ii_ex (n := 17) (by decide) (Int32.le_trans (show (0 : Int32) ≤ 0 by decide) h0_.1) (Int32.lt_of_le_of_lt h0_.2 (by decide))
    by_cases h1_ : (0 : Int32) ≤ k ∧ k ≤ 12
    · obtain ⟨k, lk, rfl⟩ := ii_ex (n := 13) (by decide) (Int32.le_trans (show (0 : Int32) ≤ 0 by decide) h1_.1) (Int32.lt_of_le_of_lt h1_.2 (by decide))
      by_cases h2_ : (0 : Int32) ≤ w ∧ w ≤ 1
      · obtain ⟨w, lw, rfl⟩ := ii_ex (n := 2) (by decide) (Int32.le_trans (show (0 : Int32) ≤ 0 by decide) h2_.1) (Int32.lt_of_le_of_lt h2_.2 (by decide))
        exact P_qL I hd hL ⟨s, Kf.rf _ _ s, Y_well 193 D qq k w h0_ lqq h1_ lk h2_ lw⟩ (fun b => ⟨wF τ 0 0, e_T0 τ, rfl, R_well 194 b τ qq k w h0_ lqq h1_ lk h2_ lw⟩)
      · have ya : ∀ d, vcall (d + 4) m_Y_well [.ref 0, .int (Int32.ofNat qq), .int (Int32.ofNat k), .int w] (xS S L s) = xA0 S L s := fun d => by
          refine (vY D rfl).trans ((B_Y_well_0 _ _ _ _ _ _).trans ?_)
          simp only [nR_ok (d + 1) D h0_, nR_ok (d + 1) D h1_, kC0_v]
          rw [nR_no (d + 1) D h2_]
          rfl
        have ra : ∀ d b, vcall (d + 3) m_R_well [.ref 30, .int (Int32.ofNat qq), .int (Int32.ofNat k), .int w] (mS b τ) = some (.inl (some (.long 0)), mS b (rN τ 1 1)) := fun d b => by
          refine (vR rfl).trans ((B_R_well_0 _ _ _ _ _ _).trans ?_)
          simp only [m_pF, obs, rw_ok (d + 1) _ h0_, rm_ok (d + 1), rw_ok (d + 1) _ h1_, rm_ok (d + 1), rw_no (d + 1) _ h2_, rm_n1 (d + 1) (show (1 : Int32) ≠ 0 by decide), kC1_v, i10, eq_self, if_true, if_false, not_true_eq_false, not_false_eq_true, B_R_well_40]
        exact P_aL (k := 1) I hd hL (fun _ _ => rfl) (by decide) (ya 195) (ra 197)
    · have ya : ∀ d, vcall (d + 4) m_Y_well [.ref 0, .int (Int32.ofNat qq), .int k, .int w] (xS S L s) = xA0 S L s := fun d => by
        refine (vY D rfl).trans ((B_Y_well_0 _ _ _ _ _ _).trans ?_)
        simp only [nR_ok (d + 1) D h0_, kC0_v]
        rw [nR_no (d + 1) D h1_]
        rfl
      have ra : ∀ d b, vcall (d + 3) m_R_well [.ref 30, .int (Int32.ofNat qq), .int k, .int w] (mS b τ) = some (.inl (some (.long 0)), mS b (rN τ 1 1)) := fun d b => by
        refine (vR rfl).trans ((B_R_well_0 _ _ _ _ _ _).trans ?_)
        simp only [m_pF, obs, rw_ok (d + 1) _ h0_, rm_ok (d + 1), rw_no (d + 1) _ h1_, rm_n1 (d + 1) (show (1 : Int32) ≠ 0 by decide), kC1_v, i10, eq_self, if_true, if_false, not_true_eq_false, not_false_eq_true, B_R_well_40]
      exact P_aL (k := 1) I hd hL (fun _ _ => rfl) (by decide) (ya 195) (ra 197)
  · have ya : ∀ d, vcall (d + 4) m_Y_well [.ref 0, .int qq, .int k, .int w] (xS S L s) = xA0 S L s := fun d => by
      refine (vY D rfl).trans ((B_Y_well_0 _ _ _ _ _ _).trans ?_)
      rw [nR_no (d + 1) D h0_]
      rfl
    have ra : ∀ d b, vcall (d + 3) m_R_well [.ref 30, .int qq, .int k, .int w] (mS b τ) = some (.inl (some (.long 0)), mS b (rN τ 1 1)) := fun d b => by
      refine (vR rfl).trans ((B_R_well_0 _ _ _ _ _ _).trans ?_)
      simp only [m_pF, obs, rw_no (d + 1) _ h0_, rm_n1 (d + 1) (show (1 : Int32) ≠ 0 by decide), kC1_v, i10, eq_self, if_true, if_false, not_true_eq_false, not_false_eq_true, B_R_well_40]
    exact P_aL (k := 1) I hd hL (fun _ _ => rfl) (by decide) (ya 195) (ra 197)
def mlN (f h k : Nat) : Nat := (k - (f - h) + (f - 1)) / f
theorem ml_u {f g k c : Nat} (hf : 1 ≤ f) (h1 : k ≤ g + c * f) (h2 : c = 0 ∨ ∃ c', c = c' + 1 ∧ g + c' * f < k) : (k - g + (f - 1)) / f = c := by
  apply Nat.div_eq_of_lt_le
  · rcases h2 with rfl | ⟨c', rfl, h⟩
    · simp
    · rw [Nat.succ_mul]; omega
  · rw [Nat.succ_mul]; omega
theorem c_Y_mealsFor (d : Nat) {b : pS} {L : xA} {s : rT} (D : Dj L) (p k f h : Nat) (hp : p < 6) (ef : s.2 13 p = Int32.ofNat f) (lf : 1 ≤ f ∧ f ≤ 60) (eh : s.2 0 (20 + p) = Int32.ofNat h) (lh : h < 100) (lk : k ≤ 400) : vcall (d + 1) m_Y_mealsFor [.ref 0, .int (Int32.ofNat p), .int (Int32.ofNat k)] (xS b L s) = some (.inl (some (.int (Int32.ofNat (mlN f h k)))), xS b L s) := by
  refine (vY D rfl).trans ((B_Y_mealsFor_0 _ _ _ _ _).trans ?_)
  have e1 : (if (1 : Int32) < Int32.ofNat f then Int32.ofNat f else 1) = Int32.ofNat f := by
    simp (disch := omega) only [ii_m1, ii_s1, obs, wF_1, wF_2, wA_1, wA_2, wR_1, wR_2, Nat.reduceEqDiff, Nat.reduceAdd, Nat.reduceMul, if_true, if_false, ite_true, ite_false, ii_la, ii_al, ii_lm, ii_ml, ii_add, ii_mul, ii_1, ii_le, ii_lt, ii_c1, ii_c2, ii_c3, ii_c4, ii_c5, ii_n1, ii_nn, kC0_v, kC1_v, kC2_v, kC3_v, kC0_x, kC1_x, kC2_x, not_true_eq_false, not_false_eq_true, ne_eq]
    by_cases h : 1 < f
    · rw [if_pos h]
    · rw [if_neg h, show f = 1 by omega]; rfl
  have e2 : (if (0 : Int32) < Int32.ofNat f - Int32.ofNat h then Int32.ofNat f - Int32.ofNat h else 0) = Int32.ofNat (f - h) := by
    by_cases g : h < f
    · rw [ii_sub (by omega)]
      simp (disch := omega) only [ii_m1, ii_s1, obs, wF_1, wF_2, wA_1, wA_2, wR_1, wR_2, Nat.reduceEqDiff, Nat.reduceAdd, Nat.reduceMul, if_true, if_false, ite_true, ite_false, ii_la, ii_al, ii_lm, ii_ml, ii_add, ii_mul, ii_1, ii_le, ii_lt, ii_c1, ii_c2, ii_c3, ii_c4, ii_c5, ii_n1, ii_nn, kC0_v, kC1_v, kC2_v, kC3_v, kC0_x, kC1_x, kC2_x, not_true_eq_false, not_false_eq_true, ne_eq]
      rw [if_pos (by omega)]
    · by_cases g2 : h = f
      · subst g2; rw [Int32.sub_self, if_neg (by decide), Nat.sub_self]; rfl
      · have := ii_sn (a := f) (c := h) (by omega) (by omega)
        rw [if_neg (Int32.not_lt.mpr (Int32.le_of_lt this)), show f - h = 0 by omega]; rfl
  simp (disch := omega) only [x0_gF D, xu_gF D, xu_gI D, sn_gF (SN_p D), sn_gI (SN_p D), obs, ef, eh, e1, e2]
  by_cases g : f - h < k
  · rw [ii_sub (by omega : f - h ≤ k)]
    simp (disch := omega) only [ii_m1, ii_s1, obs, wF_1, wF_2, wA_1, wA_2, wR_1, wR_2, Nat.reduceEqDiff, Nat.reduceAdd, Nat.reduceMul, if_true, if_false, ite_true, ite_false, ii_la, ii_al, ii_lm, ii_ml, ii_add, ii_mul, ii_1, ii_le, ii_lt, ii_c1, ii_c2, ii_c3, ii_c4, ii_c5, ii_n1, ii_nn, kC0_v, kC1_v, kC2_v, kC3_v, kC0_x, kC1_x, kC2_x, not_true_eq_false, not_false_eq_true, ne_eq]
    rw [if_pos (by omega), if_neg (by omega)]
    have e3 : Int32.ofNat (k - (f - h) + f) - 1 = Int32.ofNat (k - (f - h) + (f - 1)) := by
      have := ii_s1 (k - (f - h) + (f - 1))
      rw [show k - (f - h) + (f - 1) + 1 = k - (f - h) + f by omega] at this
      exact this
    rw [e3, ii_div (by omega) (by omega)]
    rfl
  · have e4 : mlN f h k = 0 := by
      unfold mlN
      rw [show k - (f - h) = 0 by omega, Nat.zero_add]
      exact Nat.div_eq_of_lt (by omega)
    rw [e4]
    have : ¬ 0 < Int32.ofNat k - Int32.ofNat (f - h) := by
      by_cases g2 : k = f - h
      · rw [g2, Int32.sub_self]; decide
      · exact Int32.not_lt.mpr (Int32.le_of_lt (ii_sn (by omega) (by omega)))
    rw [if_neg this]
    rfl
theorem c_R_mealsOf (d : Nat) (b : pS) (τ : rT) (p k f h : Nat) (hp : p < 6) (ef : τ.2 38 p = Int32.ofNat f) (lf : 1 ≤ f ∧ f ≤ 60) (eh : τ.2 48 (20 + p) = Int32.ofNat h) (lh : h < 100) (lk : k ≤ 400) : vcall (d + 1) m_R_mealsOf [.ref 30, .int (Int32.ofNat p), .int (Int32.ofNat k)] (mS b τ) = some (.inl (some (.int (Int32.ofNat (mlN f h k)))), mS b τ) := by
  refine (vR rfl).trans ((B_R_mealsOf_0 _ _ _ _ _).trans ?_)
  simp (disch := omega) only [m_gF, m_gI, m_pI, m_gIl, m_pIl, ii_m1, ii_s1, m_pF, obs, wF_1, wF_2, wA_1, wA_2, wR_1, wR_2, Nat.reduceEqDiff, Nat.reduceAdd, Nat.reduceMul, if_true, if_false, ite_true, ite_false, ii_la, ii_al, ii_lm, ii_ml, ii_add, ii_mul, ii_1, ii_le, ii_lt, ii_c1, ii_c2, ii_c3, ii_c4, ii_c5, ii_n1, ii_nn, kC0_v, kC1_v, kC2_v, kC3_v, kC0_x, kC1_x, kC2_x, not_true_eq_false, not_false_eq_true, ne_eq, ef, eh]
  obtain ⟨⟨x, c⟩, e, i1, i2, i3⟩ := ex_loop (F := fun j (x : Int32 × Nat) => den d m_R_mealsOf 23 [.ref 30, .int (Int32.ofNat p), .int (Int32.ofNat k), .int x.1, .int (Int32.ofNat x.2), .int (Int32.ofNat j)] [] (mS b τ)) (I := fun j x => j ≤ f - h + x.2 * f ∧ (x.2 = 0 ∨ ∃ c', x.2 = c' + 1 ∧ f - h + c' * f < j) ∧ (x.1 = Int32.ofNat (f - h + x.2 * f - j) ∨ (x.1 ≤ 0 ∧ j = f - h + x.2 * f))) k (Int32.ofNat f - Int32.ofNat h, 0) ⟨by omega, Or.inl rfl, by
      by_cases g : h ≤ f
      · rw [ii_sub g]; left; simp
      · right; refine ⟨Int32.le_of_lt (ii_sn (by omega) (by omega)), ?_⟩; dsimp only; omega⟩ (fun j x hj hx => by
    obtain ⟨x, c⟩ := x
    obtain ⟨i1, i2, i3⟩ := hx
    dsimp only at i1 i2 i3
    have hb : c * f ≤ 460 := by
      rcases i2 with rfl | ⟨c', rfl, g⟩
      · omega
      · rw [Nat.succ_mul]; omega
    by_cases g : j = f - h + c * f
    · have hx0 : ¬ 0 < x := by
        rcases i3 with i3 | i3
        · rw [i3, g, Nat.sub_self]; decide
        · exact Int32.not_lt.mpr i3.1
      refine ⟨(Int32.ofNat (f - 1), c + 1), ?_, ?_, Or.inr ⟨c, rfl, by omega⟩, Or.inl ?_⟩
      · dsimp only
        rw [B_R_mealsOf_23]
        have e3 : Int32.ofNat f + -1 = Int32.ofNat (f - 1) := by have := ii_m1 (f - 1); rwa [show f - 1 + 1 = f by omega] at this
        simp (disch := omega) only [m_gF, m_gI, m_pI, m_gIl, m_pIl, ii_m1, ii_s1, m_pF, obs, wF_1, wF_2, wA_1, wA_2, wR_1, wR_2, Nat.reduceEqDiff, Nat.reduceAdd, Nat.reduceMul, if_true, if_false, ite_true, ite_false, ii_la, ii_al, ii_lm, ii_ml, ii_add, ii_mul, ii_1, ii_le, ii_lt, ii_c1, ii_c2, ii_c3, ii_c4, ii_c5, ii_n1, ii_nn, kC0_v, kC1_v, kC2_v, kC3_v, kC0_x, kC1_x, kC2_x, not_true_eq_false, not_false_eq_true, ne_eq, ef]
        rw [if_neg (by omega), if_neg hx0, e3]
      · dsimp only; rw [Nat.succ_mul]; omega
      · dsimp only; rw [Nat.succ_mul]; congr 1; omega
    · have hx1 : x = Int32.ofNat (f - h + c * f - (j + 1) + 1) := by
        rcases i3 with i3 | i3
        · rw [i3]; congr 1; omega
        · exact absurd i3.2 g
      refine ⟨(Int32.ofNat (f - h + c * f - (j + 1)), c), ?_, by dsimp only; omega, ?_, Or.inl rfl⟩
      · dsimp only
        rw [B_R_mealsOf_23, hx1]
        simp (disch := omega) only [m_gF, m_gI, m_pI, m_gIl, m_pIl, ii_m1, ii_s1, m_pF, obs, wF_1, wF_2, wA_1, wA_2, wR_1, wR_2, Nat.reduceEqDiff, Nat.reduceAdd, Nat.reduceMul, if_true, if_false, ite_true, ite_false, ii_la, ii_al, ii_lm, ii_ml, ii_add, ii_mul, ii_1, ii_le, ii_lt, ii_c1, ii_c2, ii_c3, ii_c4, ii_c5, ii_n1, ii_nn, kC0_v, kC1_v, kC2_v, kC3_v, kC0_x, kC1_x, kC2_x, not_true_eq_false, not_false_eq_true, ne_eq]
        rw [if_neg (by omega), if_pos (by omega)]
      · dsimp only
        rcases i2 with i2 | ⟨c', e1, e2⟩
        · exact Or.inl i2
        · exact Or.inr ⟨c', e1, by omega⟩)
  have e' : den d m_R_mealsOf 23 [.ref 30, .int (Int32.ofNat p), .int (Int32.ofNat k), .int (Int32.ofNat f - Int32.ofNat h), .int 0, .int 0] [] (mS b τ) = _ := e
  rw [e']
  dsimp only at i1 i2 ⊢
  rw [B_R_mealsOf_23]
  simp (disch := omega) only [m_gF, m_gI, m_pI, m_gIl, m_pIl, ii_m1, ii_s1, m_pF, obs, wF_1, wF_2, wA_1, wA_2, wR_1, wR_2, Nat.reduceEqDiff, Nat.reduceAdd, Nat.reduceMul, if_true, if_false, ite_true, ite_false, ii_la, ii_al, ii_lm, ii_ml, ii_add, ii_mul, ii_1, ii_le, ii_lt, ii_c1, ii_c2, ii_c3, ii_c4, ii_c5, ii_n1, ii_nn, kC0_v, kC1_v, kC2_v, kC3_v, kC0_x, kC1_x, kC2_x, not_true_eq_false, not_false_eq_true, ne_eq]
  rw [if_pos (Nat.le_refl k)]
  unfold mlN
  rw [ml_u lf.1 i1 i2]
theorem P_meals {S : pS} {L : xA} {s τ : rT} {m n q : Nat} {l : List Nat} (I : Iv S L s τ m n q l) (hd : RD s τ) (p : Int32) (k : Int32) : Pr m_L_meals m_R_meals [.int p, .int k] S := by
  have I' := I; obtain ⟨D, A, hx, hr, ho, ⟨C, Cr, ⟨q1, q2, q3⟩, hy, hdy, hdk, xl, rl, hb1, hb2⟩, ⟨⟨tk, k1, k2, k3⟩, tb, tf, tr⟩, ⟨e48, hsc⟩, rc⟩ := I'; have C' := C; have Cr' := Cr; obtain ⟨hm, h8, hn, h6⟩ := C'; obtain ⟨hm', -, hn', -⟩ := Cr'
  have hL := (cR (d := 199) (M := m_L_meals) (as := [.ref 0, .int p, .int k, .ref 58]) (s := S)).trans (B_L_meals_0 _ _ _ _ _ _)
  by_cases h0_ : 0 ≤ p ∧ p < Int32.ofNat n
  · obtain ⟨p, lp, rfl⟩ := ii_ex (by omega) h0_.1 h0_.2
    by_cases h1_ : (0 : Int32) ≤ k ∧ k ≤ 400
    · obtain ⟨k, lk, rfl⟩ := ii_ex (n := 401) (by decide) (Int32.le_trans (show (0 : Int32) ≤ 0 by decide) h1_.1) (Int32.lt_of_le_of_lt h1_.2 (by decide))
      obtain ⟨-, f, f1, f2, f3, f4⟩ := hdk p lp
      obtain ⟨h, h1, h2⟩ := hsc.2.1 p lp
      have ya : ∀ d, vcall (d + 4) m_Y_meals [.ref 0, .int (Int32.ofNat p), .int (Int32.ofNat k)] (xS S L s) = some (.inl (some (.int (Int32.ofNat (mlN f h k)))), xS S L s) := fun d => by
        refine (vY D rfl).trans ((B_Y_meals_0 _ _ _ _ _).trans ?_)
        simp only [nP_ok (d + 1) D hn (show n ≤ 8 by omega) lp, nR_ok (d + 1) D h1_, kC0_v, c_Y_mealsFor (d + 2) D p k f h (by omega) f3 ⟨f1, f2⟩ h2 h1 (by omega), kC1_v]
      have ra : ∀ d b, vcall (d + 3) m_R_meals [.ref 30, .int (Int32.ofNat p), .int (Int32.ofNat k)] (mS b τ) = some (.inl (some (.int (Int32.ofNat (mlN f h k)))), mS b (wF τ 0 0)) := fun d b => by
        refine (vR rfl).trans ((B_R_meals_0 _ _ _ _ _).trans ?_)
        simp only [m_pF, obs, iP_ok d hn' (show n ≤ 8 by omega) lp, rw_ok (d + 1) _ h1_, rm_ok (d + 1), kC1_v, i10, eq_self, if_true, if_false, not_false_eq_true, c_R_mealsOf (d + 1) b (wF τ 0 0) p k f h (by omega) f4 ⟨f1, f2⟩ (by rw [wF_2, ← e48]; exact h2) h1 (by omega)]
      exact P_q I hd hL ⟨s, Kf.rf _ _ s, ya 195⟩ (fun b => ⟨wF τ 0 0, e_T0 τ, rfl, ra 197 b⟩)
    · have ya : ∀ d, vcall (d + 4) m_Y_meals [.ref 0, .int (Int32.ofNat p), .int k] (xS S L s) = xA0 S L s := fun d => by
        refine (vY D rfl).trans ((B_Y_meals_0 _ _ _ _ _).trans ?_)
        simp only [nP_ok (d + 1) D hn (show n ≤ 8 by omega) lp, kC0_v]
        rw [nR_no (d + 1) D h1_]
        rfl
      have ra : ∀ d b, vcall (d + 3) m_R_meals [.ref 30, .int (Int32.ofNat p), .int k] (mS b τ) = some (.inl (some (.int 0)), mS b (rN τ 2 1)) := fun d b => by
        refine (vR rfl).trans ((B_R_meals_0 _ _ _ _ _).trans ?_)
        simp only [m_pF, obs, iP_ok d hn' (show n ≤ 8 by omega) lp, rw_no (d + 1) _ h1_, rm_n1 (d + 1) (show (2 : Int32) ≠ 0 by decide), kC1_v, i10, eq_self, if_true, if_false, not_true_eq_false, not_false_eq_true]
      exact P_a (k := 2) I hd hL (fun _ _ => rfl) (by decide) (ya 195) (ra 197)
  · have ya : ∀ d, vcall (d + 4) m_Y_meals [.ref 0, .int p, .int k] (xS S L s) = xE0 S L s := fun d => by
      refine (vY D rfl).trans ((B_Y_meals_0 _ _ _ _ _).trans ?_)
      rw [nP_no (d + 1) D (by rw [hn]; exact h0_)]
      rfl
    have ra : ∀ d b, vcall (d + 3) m_R_meals [.ref 30, .int p, .int k] (mS b τ) = some (.inl (some (.int 0)), mS b (rN τ 1 0)) := fun d b => by
      refine (vR rfl).trans ((B_R_meals_0 _ _ _ _ _).trans ?_)
      simp only [m_pF, obs, iP_no d hn' (show n ≤ 8 by omega) h0_ (show (1 : Int32) ≠ 0 by decide), kC1_v, i10, eq_self, if_true, if_false, not_true_eq_false, not_false_eq_true]
    exact P_e (k := 1) I hd hL (fun _ _ => rfl) (by decide) (ya 195) (ra 197)
def ndV (fs v : Nat → Int32) (k n : Nat) : Int32 := fo (fun p a => if v (8 + p) = -1 then a else a + Int32.ofNat (mlN (fs p).toNatClampNeg (v (20 + p)).toNatClampNeg k)) n 0
theorem Y_need (d : Nat) {b : pS} {L : xA} {s : rT} {m n : Nat} (D : Dj L) (C : Cn s m n) (hf : ∀ p, p < n → ∃ f, 1 ≤ f ∧ f ≤ 60 ∧ s.2 13 p = Int32.ofNat f) (Hg : Hok n (s.2 0)) (k : Nat) (hk : (0 : Int32) ≤ Int32.ofNat k ∧ Int32.ofNat k ≤ 400) (lk : k < 401) : vcall (d + 6) m_Y_need [.ref 0, .int (Int32.ofNat k)] (xS b L s) = some (.inl (some (.int (ndV (s.2 13) (s.2 0) k n))), xS b L s) := by
  obtain ⟨hm, h8, hn, h6⟩ := C
  refine (vY D rfl).trans ((B_Y_need_0 _ _ _ _).trans ?_)
  rw [nR_ok (d + 3) D hk, kC0_v]
  refine (fo_loop (F := fun j a => den (d + 5) m_Y_need 13 [.ref 0, .int (Int32.ofNat k), .int a, .int (Int32.ofNat j)] [] (xS b L s)) (f := fun p a => if s.2 0 (8 + p) = -1 then a else a + Int32.ofNat (mlN (s.2 13 p).toNatClampNeg (s.2 0 (20 + p)).toNatClampNeg k)) n (fun j a hj => ?_) 0).trans ?_
  · obtain ⟨f, f1, f2, f3⟩ := hf j hj
    obtain ⟨h, h1, h2⟩ := Hg j hj
    rw [B_Y_need_13]
    simp (disch := omega) only [x0_gF D, sn_gF (SN_p D), sn_gI (SN_p D), xu_gF D, xu_gI D, xk_gF D, xk_gI D, x1_gF D, pl_ix, ii_m1, ii_s1, obs, wF_1, wF_2, wA_1, wA_2, wR_1, wR_2, Nat.reduceEqDiff, Nat.reduceAdd, Nat.reduceMul, if_true, if_false, ite_true, ite_false, ii_la, ii_al, ii_lm, ii_ml, ii_add, ii_mul, ii_1, ii_le, ii_lt, ii_c1, ii_c2, ii_c3, ii_c4, ii_c5, ii_n1, ii_nn, kC0_v, kC1_v, kC2_v, kC3_v, kC0_x, kC1_x, kC2_x, not_true_eq_false, not_false_eq_true, ne_eq, hn, c_S_sits (d + 4) (SN_p D), c_Y_mealsFor (d + 4) D j k f h (show j < 6 by omega) f3 ⟨f1, f2⟩ h2 h1 (show k ≤ 400 by omega)]
    rw [if_neg (by omega), f3, h2, ii_tn (by omega), ii_tn (by omega)]
    by_cases g : s.2 0 (8 + j) = -1 <;> simp [g]
  · rw [B_Y_need_13]
    simp (disch := omega) only [x0_gF D, sn_gF (SN_p D), sn_gI (SN_p D), xu_gF D, xu_gI D, xk_gF D, xk_gI D, x1_gF D, pl_ix, ii_m1, ii_s1, obs, wF_1, wF_2, wA_1, wA_2, wR_1, wR_2, Nat.reduceEqDiff, Nat.reduceAdd, Nat.reduceMul, if_true, if_false, ite_true, ite_false, ii_la, ii_al, ii_lm, ii_ml, ii_add, ii_mul, ii_1, ii_le, ii_lt, ii_c1, ii_c2, ii_c3, ii_c4, ii_c5, ii_n1, ii_nn, kC0_v, kC1_v, kC2_v, kC3_v, kC0_x, kC1_x, kC2_x, not_true_eq_false, not_false_eq_true, ne_eq, hn]
    rw [if_pos (Nat.le_refl n)]; rfl
theorem R_need (d : Nat) (b : pS) (τ : rT) {m n : Nat} (C : rCn τ m n) (hf : ∀ p, p < n → ∃ f, 1 ≤ f ∧ f ≤ 60 ∧ τ.2 38 p = Int32.ofNat f) (Hg : Hok n (τ.2 48)) (k : Nat) (hk : (0 : Int32) ≤ Int32.ofNat k ∧ Int32.ofNat k ≤ 400) (lk : k < 401) : vcall (d + 6) m_R_need [.ref 30, .int (Int32.ofNat k)] (mS b τ) = some (.inl (some (.int (ndV (τ.2 38) (τ.2 48) k n))), mS b (wF τ 0 0)) := by
  obtain ⟨hm, h8, hn, h6⟩ := C
  refine (vR rfl).trans ((B_R_need_0 _ _ _ _).trans ?_)
  simp only [m_pF, obs, rw_ok (d + 4) _ hk, rm_ok (d + 4), kC1_v, i10, eq_self, if_true, if_false, not_false_eq_true]
  refine (fo_loop (F := fun j a => den (d + 5) m_R_need 28 [.ref 30, .int (Int32.ofNat k), .int a, .int (Int32.ofNat j)] [] (mS b (wF τ 0 0))) (f := fun p a => if τ.2 48 (8 + p) = -1 then a else a + Int32.ofNat (mlN (τ.2 38 p).toNatClampNeg (τ.2 48 (20 + p)).toNatClampNeg k)) n (fun j a hj => ?_) 0).trans ?_
  · obtain ⟨f, f1, f2, f3⟩ := hf j hj
    obtain ⟨h, h1, h2⟩ := Hg j hj
    rw [B_R_need_28]
    simp (disch := omega) only [m_gF, m_gI, m_pI, m_gIl, m_pIl, ii_m1, ii_s1, m_pF, obs, wF_1, wF_2, wA_1, wA_2, wR_1, wR_2, Nat.reduceEqDiff, Nat.reduceAdd, Nat.reduceMul, if_true, if_false, ite_true, ite_false, ii_la, ii_al, ii_lm, ii_ml, ii_add, ii_mul, ii_1, ii_le, ii_lt, ii_c1, ii_c2, ii_c3, ii_c4, ii_c5, ii_n1, ii_nn, kC0_v, kC1_v, kC2_v, kC3_v, kC0_x, kC1_x, kC2_x, not_true_eq_false, not_false_eq_true, ne_eq, hn, c_R_mealsOf (d + 4) b (wF τ 0 0) j k f h (show j < 6 by omega) f3 ⟨f1, f2⟩ h2 h1 (show k ≤ 400 by omega), Int32.add_zero]
    rw [if_neg (by omega), f3, h2, ii_tn (by omega), ii_tn (by omega)]
    by_cases g : τ.2 48 (8 + j) = -1 <;> simp [g]
  · rw [B_R_need_28]
    simp (disch := omega) only [m_gF, m_gI, m_pI, m_gIl, m_pIl, ii_m1, ii_s1, m_pF, obs, wF_1, wF_2, wA_1, wA_2, wR_1, wR_2, Nat.reduceEqDiff, Nat.reduceAdd, Nat.reduceMul, if_true, if_false, ite_true, ite_false, ii_la, ii_al, ii_lm, ii_ml, ii_add, ii_mul, ii_1, ii_le, ii_lt, ii_c1, ii_c2, ii_c3, ii_c4, ii_c5, ii_n1, ii_nn, kC0_v, kC1_v, kC2_v, kC3_v, kC0_x, kC1_x, kC2_x, not_true_eq_false, not_false_eq_true, ne_eq, hn]
    rw [if_pos (Nat.le_refl n)]; rfl
theorem P_need {S : pS} {L : xA} {s τ : rT} {m n q : Nat} {l : List Nat} (I : Iv S L s τ m n q l) (hd : RD s τ) (k : Int32) : Pr m_L_need m_R_need [.int k] S := by
  have I' := I; obtain ⟨D, A, hx, hr, ho, ⟨C, Cr, ⟨q1, q2, q3⟩, hy, hdy, hdk, xl, rl, hb1, hb2⟩, ⟨⟨tk, k1, k2, k3⟩, tb, tf, tr⟩, ⟨e48, hsc⟩, rc⟩ := I'; have C' := C; have Cr' := Cr; obtain ⟨hm, h8, hn, h6⟩ := C'; obtain ⟨hm', -, hn', -⟩ := Cr'
  have hL := (cR (d := 199) (M := m_L_need) (as := [.ref 0, .int k, .ref 58]) (s := S)).trans (B_L_need_0 _ _ _ _ _)
  by_cases h0_ : (0 : Int32) ≤ k ∧ k ≤ 400
  · obtain ⟨k, lk, rfl⟩ := ii_ex (n := 401) (by decide) (Int32.le_trans (show (0 : Int32) ≤ 0 by decide) h0_.1) (Int32.lt_of_le_of_lt h0_.2 (by decide))
    have ev : ndV (s.2 13) (s.2 0) k n = ndV (τ.2 38) (τ.2 48) k n := fo_congr n 0 (fun p a hp => by obtain ⟨-, j, -, -, e1, e2⟩ := hdk p hp; rw [e1, e2, e48])
    exact P_q I hd hL ⟨s, Kf.rf _ _ s, Y_need 193 D C (fun p hp => by obtain ⟨-, j, j1, j2, e1, e2⟩ := hdk p hp; exact ⟨j, j1, j2, e1⟩) hsc.2.1 k h0_ lk⟩ (fun b => ⟨wF τ 0 0, e_T0 τ, rfl, by rw [ev]; exact R_need 194 b τ Cr (fun p hp => by obtain ⟨-, j, j1, j2, e1, e2⟩ := hdk p hp; exact ⟨j, j1, j2, e2⟩) (by rw [← e48]; exact hsc.2.1) k h0_ lk⟩)
  · have ya : ∀ d, vcall (d + 4) m_Y_need [.ref 0, .int k] (xS S L s) = xA0 S L s := fun d => by
      refine (vY D rfl).trans ((B_Y_need_0 _ _ _ _).trans ?_)
      rw [nR_no (d + 1) D h0_]
      rfl
    have ra : ∀ d b, vcall (d + 3) m_R_need [.ref 30, .int k] (mS b τ) = some (.inl (some (.int 0)), mS b (rN τ 1 1)) := fun d b => by
      refine (vR rfl).trans ((B_R_need_0 _ _ _ _).trans ?_)
      simp only [m_pF, obs, rw_no (d + 1) _ h0_, rm_n1 (d + 1) (show (1 : Int32) ≠ 0 by decide), kC1_v, i10, eq_self, if_true, if_false, not_true_eq_false, not_false_eq_true]
    exact P_a (k := 1) I hd hL (fun _ _ => rfl) (by decide) (ya 195) (ra 197)
